/-! The calls: run, row, make, feed. -/
/-- what run does with the session at j -/
def runAt (m : Mc) (ts : List Int32) (p sr : Int32) (h j : Nat) : Int32 × Mc × List Int32 × Int32 :=
  if sr < (sD m.1 j).2.2.1 then (3, (m.1.set j ((sD m.1 j).1, p, (sD m.1 j).2.2.1, (sD m.1 j).2.2.2.1, (sD m.1 j).2.2.2.2), m.2.1, p), [], p)
  else if sr = (sD m.1 j).2.2.1 then (1, (m.1.set j ((sD m.1 j).1, p, (sD m.1 j).2.2.1, (sD m.1 j).2.2.2.1, (sD m.1 j).2.2.2.2), m.2.1, p), (sD m.1 j).2.2.2.2, (sD m.1 j).2.2.2.1)
  else (0, (m.1.set j ((sD m.1 j).1, p, sr, p, (opF h m.2.1 ts).2), (opF h m.2.1 ts).1, p), (opF h m.2.1 ts).2, p)
def fRun (s : St) (z p sn sr h : Int32) : Nat × Int32 × St :=
  if z = 0 ∨ z = 1 then
    if ((s.2.1 (mIx z)).2.2 < p ∧ p ≤ 1000000) ∧ 0 ≤ sr ∧ 0 ≤ h ∧ okOp (mIx h) s.1.length then
      if fsn (s.2.1 (mIx z)).1 sn < (s.2.1 (mIx z)).1.length then
        (0, (runAt (s.2.1 (mIx z)) s.1 p sr (mIx h) (fsn (s.2.1 (mIx z)).1 sn)).1, ([], upM s.2.1 (mIx z) (runAt (s.2.1 (mIx z)) s.1 p sr (mIx h) (fsn (s.2.1 (mIx z)).1 sn)).2.1, (runAt (s.2.1 (mIx z)) s.1 p sr (mIx h) (fsn (s.2.1 (mIx z)).1 sn)).2.2.1, (runAt (s.2.1 (mIx z)) s.1 p sr (mIx h) (fsn (s.2.1 (mIx z)).1 sn)).2.2.2))
      else (0, 2, ([], upM s.2.1 (mIx z) ((s.2.1 (mIx z)).1, (s.2.1 (mIx z)).2.1, p), [], p))
    else (2, 0, ([], s.2))
  else (1, 0, ([], s.2))
theorem tvK_len {es : List Es} {k : List Int32} (h : ∀ e ∈ es, okE e) : 1 ≤ (tvK es k).length ∧ (tvK es k).length ≤ 101 := by
  unfold tvK
  split
  · next hc =>
    have := (h _ (eD_mem hc.1)).2.2
    rw [List.length_append, num_len]
    omega
  · rw [num_len]
    omega
/-- an answer has 1 to 101 bytes -/
theorem opF_len {s : Nat} {es : List Es} {ts : List Int32} (h : ∀ e ∈ es, okE e) : 1 ≤ (opF s es ts).2.length ∧ (opF s es ts).2.length ≤ 101 := by
  unfold opF
  split
  · unfold putK
    split
    · next hc =>
      have := (h _ (eD_mem hc.1)).2.2
      split
      · rw [List.length_append, num_len]
        omega
      · rw [num_len]
        omega
    · split
      · rw [num_len]
        omega
      · rw [num_len]
        omega
  · split
    · unfold swapK
      split
      · next hc =>
        have := (h _ (eD_mem hc.1)).2.2
        split
        · split
          · rw [num_len]
            omega
          · rw [num_len]
            omega
        · rw [List.length_append, num_len]
          omega
      · rw [num_len]
        omega
    · unfold remK
      split
      · next hc =>
        have := (h _ (eD_mem hc.1)).2.2
        rw [List.length_append, num_len]
        omega
      · rw [num_len]
        omega
theorem xOw.eqm {D : va_G} {X : xH} {F V : Nat → Nat} {I : Nat → Option Imm} {i : Nat} {m m' o : Mc} {bs cs be ce br rc : Nat} {ts res : List Int32} {n lp : Int32} {as1 as2 : List Nat} (h : xOw D X F V I i m o bs cs be ce br rc ts res n lp as1 as2) (e : m = m') : xOw D X F V I i m' o bs cs be ce br rc ts res n lp as1 as2 := e ▸ h
/-- a session is put in place of another -/
theorem xOw.sets {D : va_G} {X X' : xH} {F V : Nat → Nat} {I : Nat → Option Imm} {i j q : Nat} {m o : Mc} {bs cs be ce br rc : Nat} {ts res : List Int32} {n lp : Int32} {as1 as2 : List Nat} {e : Ss} (h : xOw D X F V I i m o bs cs be ce br rc ts res n lp as1 as2) (hj : j < m.1.length) (he : imS I q e) (hl : e.2.2.2.2.length ≤ 104) (hL : xLi D X' (F (20 + i)) bs cs (as1.set j q)) (hf : xFr [F (20 + i), bs] X X') : xOw D X' F V I i (m.1.set j e, m.2.1, m.2.2) o bs cs be ce br rc ts res n lp (as1.set j q) as2 := by
  obtain ⟨h1, h2, h3, h4, h5, h6, h7, h8, h9, h10, h11⟩ := id h
  obtain ⟨ha, hLo, hE, hok, hM, hll, hbb⟩ := id h9
  obtain ⟨vl, hl0⟩ := hLo.ob
  obtain ⟨fb, hb⟩ := hLo.ar
  obtain ⟨vk, hk⟩ := hM.2.1.ob
  obtain ⟨fe, he0⟩ := hM.2.1.ar
  have n1 : F (10 + i) ∉ [F (20 + i), bs] := by
    simp only [List.mem_cons, List.not_mem_nil, or_false, not_or]
    exact ⟨xne ha hl0 (by intro h; cases h), xne ha hb (by intro h; cases h)⟩
  have n2 : F (30 + i) ∉ [F (20 + i), bs] := by
    simp only [List.mem_cons, List.not_mem_nil, or_false, not_or]
    exact ⟨xne hM.1 hl0 (by intro h; cases h), xne hM.1 hb (by intro h; cases h)⟩
  have n3 : F (40 + i) ∉ [F (20 + i), bs] := by
    simp only [List.mem_cons, List.not_mem_nil, or_false, not_or]
    exact ⟨Ne.symm hll, xne hk hb (by intro h; cases h)⟩
  have n4 : be ∉ [F (20 + i), bs] ∨ xz0 X be := by
    rcases hbb.symm with e | e
    · left
      simp only [List.mem_cons, List.not_mem_nil, or_false, not_or]
      exact ⟨xne he0 hl0 (by intro h; cases h), e⟩
    · exact Or.inr e
  refine h.mach imX.rf (h7.keepL hLo hf) ⟨hf.use ha n1, hL, hE.set hj he, ⟨?_, fun s hs => ?_⟩, hM.keepz hf n2 n3 n4, hll, hbb.keep hf⟩ (hf.mono (fun q hq => ?_)) (Or.inl rfl) (Or.inl rfl)
  · rw [List.length_set]
    exact hok.1
  · rcases List.mem_or_eq_of_mem_set hs with h | h
    · exact hok.2 s h
    · rw [h]
      exact hl
  · simp only [List.mem_cons, List.not_mem_nil, or_false] at hq ⊢
    rcases hq with e | e
    · exact Or.inr (Or.inl e)
    · exact Or.inr (Or.inr (Or.inl e))
set_option maxRecDepth 100000 in
set_option maxHeartbeats 4000000 in
theorem c_TK_run {l : Launch} {D : va_G} {H0 : Heap} {X : xH} {F V : Nat → Nat} {I : Nat → Option Imm} {s : St} (hK : xTK D X F V I s) {z p sn sr h : Int32} : xMet l D H0 y_TK_run b_TK_run 10 (some .int) [] 8 9 1500 [.ref (F 0), .int z, .int p, .int sn, .int sr, .int h] X (fun o X' => xEnd "java/lang/IndexOutOfBoundsException" "java/lang/IllegalArgumentException" ((fRun s z p sn sr h).1, (fRun s z p sn sr h).2.1) o ∧ ∃ V' I', vLe V V' ∧ imLe I I' ∧ xTK D X' F V' I' (fRun s z p sn sr h).2.2) := by
  have htk := hK.1
  have hT0 := hK.2.1.len
  refine ⟨[some (.ref (F 0)), some (.int z), some (.int p), some (.int sn), some (.int sr), some (.int h), none, none, none, none], rfl, Nat.le_of_ble_eq_true rfl, fun E hD hH hl _ C => ?_⟩
  subst hD
  subst hH
  subst hl
  refine xr_aload_n C d_TK_run_0 1 rfl rfl ?_
  refine xr_callV C (c_TK_takeTape htk) k_TK_takeTape d_TK_run_1 4 rfl htk rfl (Or.inl q_400) v_TK_takeTape e_TK_takeTape h_TK_takeTape rfl ⟨Nat.le_of_ble_eq_true rfl, Nat.le_of_ble_eq_true rfl, Nat.le_of_ble_eq_true rfl⟩ (by omega) (by omega) (fun v9 X1 hP => ?_) (fun _ _ h => absurd h.1 (by simp))
  obtain ⟨h1, hX1⟩ := hP
  cases h1
  have hOw1 : ∀ i, i < 2 → ∃ as1 as2, xOw E.D X1 F V I i (s.2.1 i) (s.2.1 (1 - i)) (V (10 + i)) (V (20 + i)) (V (30 + i)) (V (40 + i)) (V 0) (V 1) s.1 s.2.2.1 0 s.2.2.2 as1 as2 := by
    intro i hi
    obtain ⟨b1, b2, hO⟩ := hK.ow hi
    refine ⟨b1, b2, ?_⟩
    rw [hX1]
    exact hO.self
  have hK1 : ∃ V' I', vLe V V' ∧ imLe I I' ∧ xTK E.D X1 F V' I' ([], s.2) := by
    obtain ⟨b1, b2, hO⟩ := hOw1 0 (by omega)
    exact xOw.tk0 (M := s.2.1) hO.nil (by omega) (Nat.le_refl _) (Nat.le_refl _) imLe.rf
  obtain ⟨b10, b20, hO10⟩ := hOw1 0 (by omega)
  have htk1 := hO10.1
  refine xr_istore C d_TK_run_4 6 rfl rfl rfl ?_
  refine xr_aload_n C d_TK_run_6 7 rfl rfl ?_
  refine xr_iload_n C d_TK_run_7 8 rfl rfl ?_
  rcases mach_ix z with hz | ⟨i, hi, rfl⟩
  · have hf : fRun s z p sn sr h = (1, 0, ([], s.2)) := if_neg (notM hz)
    rw [hf] at C
    refine xr_callV C (c_TK_machineOfX hz) k_TK_machineOf d_TK_run_8 11 rfl htk1 rfl (Or.inl q_240) v_TK_machineOf e_TK_machineOf h_TK_machineOf rfl ⟨Nat.le_of_ble_eq_true rfl, Nat.le_of_ble_eq_true rfl, Nat.le_of_ble_eq_true rfl⟩ (by omega) (by omega) (fun _ _ h => absurd h.1 (by simp)) (fun Cn X9 hP => ?_)
    obtain ⟨h1, rfl⟩ := hP
    cases h1
    exact xTh_out C (by omega) (by omega) ⟨xEnd_1, hK1⟩
  · obtain ⟨as1, as2, hO⟩ := hOw1 i hi
    obtain ⟨htk2, o2, o3, o4, o5, o6, o7, o8, o9, o10, o11⟩ := id hO
    obtain ⟨a1, a2, a3, a4, a5, a6, a7⟩ := id o9
    obtain ⟨avl, a8⟩ := a2.ob
    obtain ⟨a9, a10, a11, a12⟩ := id a5
    obtain ⟨avk, a13⟩ := a10.ob
    have hl1 := a3.1
    have hl2 := a11.1
    have hl3 := a4.1
    have hl4 := a12.1
    have hfm : fRun s (nI i) p sn sr h = if ((s.2.1 i).2.2 < p ∧ p ≤ 1000000) ∧ 0 ≤ sr ∧ 0 ≤ h ∧ okOp (mIx h) s.1.length then
      if fsn (s.2.1 i).1 sn < (s.2.1 i).1.length then
        (0, (runAt (s.2.1 i) s.1 p sr (mIx h) (fsn (s.2.1 i).1 sn)).1, ([], upM s.2.1 i (runAt (s.2.1 i) s.1 p sr (mIx h) (fsn (s.2.1 i).1 sn)).2.1, (runAt (s.2.1 i) s.1 p sr (mIx h) (fsn (s.2.1 i).1 sn)).2.2.1, (runAt (s.2.1 i) s.1 p sr (mIx h) (fsn (s.2.1 i).1 sn)).2.2.2))
      else (0, 2, ([], upM s.2.1 i ((s.2.1 i).1, (s.2.1 i).2.1, p), [], p))
    else (2, 0, ([], s.2)) := by
      unfold fRun
      rw [if_pos (isM_of hi), mIx_nI (by omega)]
    have hfs := fsn_le sn (s.2.1 i).1
    refine xr_callV C (n_mach htk1 hi) k_TK_machineOf d_TK_run_8 11 rfl htk1 rfl (Or.inl q_240) v_TK_machineOf e_TK_machineOf h_TK_machineOf rfl ⟨Nat.le_of_ble_eq_true rfl, Nat.le_of_ble_eq_true rfl, Nat.le_of_ble_eq_true rfl⟩ (by omega) (by omega) (fun v9 X1 hP => ?_) (fun _ _ h => absurd h.1 (by simp))
    obtain ⟨h1, rfl⟩ := hP
    cases h1
    refine xr_astore C d_TK_run_11 13 rfl rfl rfl ?_
    refine xr_aload C d_TK_run_13 15 rfl rfl ?_
    refine xr_iload_n C d_TK_run_15 16 rfl rfl ?_
    refine xr_callV C (c_Ma_takes a1) k_Ma_takes d_TK_run_16 19 rfl (by first | assumption | exact xup_self | exact (xup_ne (by assumption)).trans (by assumption) | exact (xup_ne (Ne.symm (by assumption))).trans (by assumption) | exact (xup_ne (by assumption)).trans xup_self | exact (xup_ne (Ne.symm (by assumption))).trans xup_self) rfl (Or.inl q_260) v_Ma_takes e_Ma_takes h_Ma_takes rfl ⟨Nat.le_of_ble_eq_true rfl, Nat.le_of_ble_eq_true rfl, Nat.le_of_ble_eq_true rfl⟩ (by omega) (by omega) (fun v9 X1 hP => ?_) (fun _ _ h => absurd h.1 (by simp))
    obtain ⟨h1, rfl⟩ := hP
    cases h1
    by_cases hp : (s.2.1 i).2.2 < p ∧ p ≤ 1000000
    rotate_left
    · rw [hfm, if_neg (fun q => hp q.1)] at C
      refine xr_toi (if_neg hp) ?_
      refine xr_if_ne C d_TK_run_19 22 32 rfl (by decide) (fun h => absurd rfl h) (fun _ => ?_)
      exact xr_throw C rfl d_TK_run_22 d_TK_run_25 d_TK_run_26 d_TK_run_28 d_TK_run_31 tw_IAE xs_57 (Nat.le_of_ble_eq_true rfl) (by omega) (by omega) ⟨xEnd_2, hK1⟩
    refine xr_toi (if_pos hp) ?_
    refine xr_if_ne C d_TK_run_19 22 32 rfl (by decide) (fun _ => ?_) (fun h => absurd h (by decide))
    have t47 : ¬ (((s.2.1 i).2.2 < p ∧ p ≤ 1000000) ∧ 0 ≤ sr ∧ 0 ≤ h ∧ okOp (mIx h) s.1.length) → xG E X1 0 0 47 [some (.ref (F 0)), some (.int (nI i)), some (.int p), some (.int sn), some (.int sr), some (.int h), some (.int (nI s.1.length)), some (.ref (F (10 + i))), none, none] [] := by
      intro hn
      rw [hfm, if_neg hn] at C
      exact xr_throw C rfl d_TK_run_47 d_TK_run_50 d_TK_run_51 d_TK_run_53 d_TK_run_56 tw_IAE xs_80 (Nat.le_of_ble_eq_true rfl) (by omega) (by omega) ⟨xEnd_2, hK1⟩
    refine xr_iload C d_TK_run_32 34 rfl rfl ?_
    refine xr_if_lt C d_TK_run_34 37 47 rfl (by decide) (fun q => t47 (fun c => absurd c.2.1 (Int32.not_le.mpr q))) (fun hsr => ?_)
    refine xr_iload C d_TK_run_37 39 rfl rfl ?_
    refine xr_iload C d_TK_run_39 41 rfl rfl ?_
    rcases nI_of_or h with hneg | ⟨w, hw, rfl⟩
    · have hnn : ¬ (((s.2.1 i).2.2 < p ∧ p ≤ 1000000) ∧ 0 ≤ sr ∧ 0 ≤ h ∧ okOp (mIx h) s.1.length) := fun q => absurd q.2.2.1 (Int32.not_le.mpr hneg)
      refine xr_callS C (c_TK_isOperationN hneg) k_TK_isOperation d_TK_run_41 44 rfl (Or.inl q_404) s_TK_isOperation in_TK_isOperation h_TK_isOperation rfl ⟨Nat.le_of_ble_eq_true rfl, Nat.le_of_ble_eq_true rfl, Nat.le_of_ble_eq_true rfl⟩ (by omega) (by omega) (fun v9 X1 hP => ?_) (fun _ _ h => absurd h.1 (by simp))
      obtain ⟨h1, rfl⟩ := hP
      cases h1
      refine xr_if_ne C d_TK_run_44 47 57 rfl (by decide) (fun h => absurd rfl h) (fun _ => t47 hnn)
    rw [mIx_nI hw] at hfm t47
    refine xr_callS C (c_TK_isOperation hw hT0) k_TK_isOperation d_TK_run_41 44 rfl (Or.inl q_404) s_TK_isOperation in_TK_isOperation h_TK_isOperation rfl ⟨Nat.le_of_ble_eq_true rfl, Nat.le_of_ble_eq_true rfl, Nat.le_of_ble_eq_true rfl⟩ (by omega) (by omega) (fun v9 X1 hP => ?_) (fun _ _ h => absurd h.1 (by simp))
    obtain ⟨h1, rfl⟩ := hP
    cases h1
    by_cases hc : okOp w s.1.length
    rotate_left
    · refine xr_toi (if_neg hc) ?_
      refine xr_if_ne C d_TK_run_44 47 57 rfl (by decide) (fun h => absurd rfl h) (fun _ => t47 (fun q => hc q.2.2.2))
    refine xr_toi (if_pos hc) ?_
    rw [if_pos ⟨hp, Int32.not_lt.mp hsr, nI_pos' hw, hc⟩] at hfm
    refine xr_if_ne C d_TK_run_44 47 57 rfl (by decide) (fun _ => ?_) (fun h => absurd h (by decide))
    refine xr_aload C d_TK_run_57 59 rfl rfl ?_
    refine xr_iload_n C d_TK_run_59 60 rfl rfl ?_
    refine xr_put C K_Ma 2 d_TK_run_60 63 rfl q_93 (Or.inl rfl) rfl rfl rfl rfl (by first | assumption | exact xup_self | exact (xup_ne (by assumption)).trans (by assumption) | exact (xup_ne (Ne.symm (by assumption))).trans (by assumption) | exact (xup_ne (by assumption)).trans xup_self | exact (xup_ne (Ne.symm (by assumption))).trans xup_self) rfl rfl ?_
    have hO1 := hO.setg (g := p)
    have d1 := hO1.1
    refine xr_aload_n C d_TK_run_63 64 rfl rfl ?_
    refine xr_iload_n C d_TK_run_64 65 rfl rfl ?_
    refine xr_put C K_TK 5 d_TK_run_65 68 rfl q_122 (Or.inl rfl) rfl rfl rfl rfl (by first | assumption | exact xup_self | exact (xup_ne (by assumption)).trans (by assumption) | exact (xup_ne (Ne.symm (by assumption))).trans (by assumption) | exact (xup_ne (by assumption)).trans xup_self | exact (xup_ne (Ne.symm (by assumption))).trans xup_self) rfl rfl ?_
    have hO2 := hO1.self (n' := 0) (lp' := p)
    obtain ⟨X2, hX2⟩ : ∃ z, z = xup (xup X1 (F (10 + i)) (.inr (1, [.ref (F (20 + i)), .ref (F (30 + i)), .int p]))) (F 0) (.inr (0, [.ref (F 10), .ref (F 11), .ref (F 1), .ref (F 2), .int 0, .int p])) := ⟨_, rfl⟩
    refine xG.eqX (show _ = X2 from hX2.symm) ?_
    rw [← hX2] at hO2
    have d2 := hO2.1
    have d5 := hO2.2.2.2.2.1
    have d5r := d5.at
    refine xr_aload_n C d_TK_run_68 69 rfl rfl ?_
    refine xr_get C K_TK 3 d_TK_run_69 72 rfl q_120 (Or.inl rfl) rfl (by first | assumption | exact xup_self | exact (xup_ne (by assumption)).trans (by assumption) | exact (xup_ne (Ne.symm (by assumption))).trans (by assumption) | exact (xup_ne (by assumption)).trans xup_self | exact (xup_ne (Ne.symm (by assumption))).trans xup_self) rfl ?_
    refine xr_callV C (c_Ro_empty d5) k_Ro_empty d_TK_run_72 75 rfl d5r rfl (Or.inl q_423) v_Ro_empty e_Ro_empty h_Ro_empty rfl ⟨Nat.le_of_ble_eq_true rfl, Nat.le_of_ble_eq_true rfl, Nat.le_of_ble_eq_true rfl⟩ (by omega) (by omega) (fun v9 X3 hP => ?_) (fun _ _ h => absurd h.1 (by simp))
    obtain ⟨e1, e2, e3⟩ := hP
    cases e1
    have hO3 := hO2.emp e2 e3
    obtain ⟨c1, c2, c3, c4, c5, c6, c7, c8, c9, c10, c11⟩ := id hO3
    have c9a := c9.1
    refine xr_aload C d_TK_run_75 77 rfl rfl ?_
    refine xr_iload_n C d_TK_run_77 78 rfl rfl ?_
    refine xr_callV C (c_Ma_indexOfSession c7 c9) k_Ma_indexOfSession d_TK_run_78 81 rfl (by first | assumption | exact xup_self | exact (xup_ne (by assumption)).trans (by assumption) | exact (xup_ne (Ne.symm (by assumption))).trans (by assumption) | exact (xup_ne (by assumption)).trans xup_self | exact (xup_ne (Ne.symm (by assumption))).trans xup_self) rfl (Or.inl q_427) v_Ma_indexOfSession e_Ma_indexOfSession h_Ma_indexOfSession rfl ⟨Nat.le_of_ble_eq_true rfl, Nat.le_of_ble_eq_true rfl, Nat.le_of_ble_eq_true rfl⟩ (by omega) (by omega) (fun v9 X3 hP => ?_) (fun _ _ h => absurd h.1 (by simp))
    obtain ⟨h1, rfl⟩ := hP
    cases h1
    by_cases hj : fsn (s.2.1 i).1 sn < (s.2.1 i).1.length
    rotate_left
    · rw [hfm, if_neg hj] at C
      refine xr_toi (show _ = -1 by unfold ixS; rw [if_neg hj]) ?_
      refine xr_istore C d_TK_run_81 83 rfl rfl rfl ?_
      refine xr_iload C d_TK_run_83 85 rfl rfl ?_
      refine xr_iconst (v := (-1)) C d_TK_run_85 86 rfl (by decide) ?_
      refine xr_icmp_ne C d_TK_run_86 89 91 rfl (by decide) (fun h => absurd rfl h) (fun _ => ?_)
      refine xr_iconst (v := 2) C d_TK_run_89 90 rfl (by decide) ?_
      exact xr_iret C d_TK_run_90 (by omega) (by omega) ⟨xEnd_ok, hO3.nil.tk' hi (Nat.le_refl _) (Nat.le_refl _) imLe.rf⟩
    obtain ⟨j, hjd⟩ : ∃ j, j = fsn (s.2.1 i).1 sn := ⟨_, rfl⟩
    rw [if_pos hj, ← hjd] at hfm
    refine xr_toi (show _ = nI j by unfold ixS; rw [if_pos hj, hjd]) ?_
    have hj1 : j < (s.2.1 i).1.length := by omega
    have hj2 : j < as1.length := by omega
    obtain ⟨k0, hk0⟩ : ∃ k0, k0 = sD (s.2.1 i).1 j := ⟨_, rfl⟩
    have hkl := a4.2 _ (sD_mem hj1)
    rw [← hk0] at hkl
    have hS0 : imS I (as1.getD j 0) k0 := by rw [hk0]; exact a3.2 j hj2
    obtain ⟨qa, k1, k2, k3⟩ := hS0.use c7
    have c9l := c9.2.1
    obtain ⟨cvl, c9o⟩ := c9l.ob
    refine xr_istore C d_TK_run_81 83 rfl rfl rfl ?_
    refine xr_iload C d_TK_run_83 85 rfl rfl ?_
    refine xr_iconst (v := (-1)) C d_TK_run_85 86 rfl (by decide) ?_
    refine xr_icmp_ne C d_TK_run_86 89 91 rfl (by decide) (fun _ => ?_) (fun h => absurd (show nI j < 0 by rw [h]; decide) (nI_pos (by omega)))
    refine xr_aload C d_TK_run_91 93 rfl rfl ?_
    refine xr_get C K_Ma 0 d_TK_run_93 96 rfl q_89 (Or.inl rfl) rfl (by first | assumption | exact xup_self | exact (xup_ne (by assumption)).trans (by assumption) | exact (xup_ne (Ne.symm (by assumption))).trans (by assumption) | exact (xup_ne (by assumption)).trans xup_self | exact (xup_ne (Ne.symm (by assumption))).trans xup_self) rfl ?_
    refine xr_iload C d_TK_run_96 98 rfl rfl ?_
    refine xr_callV C (l_get c9l hj2) k_AL_get d_TK_run_98 101 rfl (by first | assumption | exact xup_self | exact (xup_ne (by assumption)).trans (by assumption) | exact (xup_ne (Ne.symm (by assumption))).trans (by assumption) | exact (xup_ne (by assumption)).trans xup_self | exact (xup_ne (Ne.symm (by assumption))).trans xup_self) rfl (Or.inl q_431) v_AL_get e_AL_get h_AL_get rfl ⟨Nat.le_of_ble_eq_true rfl, Nat.le_of_ble_eq_true rfl, Nat.le_of_ble_eq_true rfl⟩ (by omega) (by omega) (fun v9 X3 hP => ?_) (fun _ _ h => absurd h.1 (by simp))
    obtain ⟨h1, rfl⟩ := hP
    cases h1
    refine xr_cast C d_TK_run_101 104 rfl k1 rfl q_432 ?_
    refine xr_iload_n C d_TK_run_104 105 rfl rfl ?_
    refine xr_callV C (c_Se_usedAt (z := p) k1) k_Se_usedAt d_TK_run_105 108 rfl k1 rfl (Or.inl q_433) v_Se_usedAt e_Se_usedAt h_Se_usedAt rfl ⟨Nat.le_of_ble_eq_true rfl, Nat.le_of_ble_eq_true rfl, Nat.le_of_ble_eq_true rfl⟩ (by omega) (by omega) (fun v9 X4 hP => ?_) (fun _ _ h => by obtain ⟨q, h, -⟩ := h; cases h)
    obtain ⟨q4, e4, e5, e6⟩ := hP
    cases e4
    obtain ⟨kn, hkn⟩ : ∃ kn : Ss, kn = (k0.1, p, k0.2.2.1, k0.2.2.2.1, k0.2.2.2.2) := ⟨_, rfl⟩
    obtain ⟨I4, hI4d⟩ : ∃ z, z = imUp I q4 (.inr (.inl (k0.1, p, k0.2.2.1, k0.2.2.2.1, qa))) := ⟨_, rfl⟩
    have hf4 : xFr [] X3 X4 := by rw [e6]; exact xFr_new e5
    have hI4 : xIm E.D X4 I4 := by rw [e6, hI4d]; exact c7.new e5 xup_self
    have hx4 : imX X3 I I4 := by rw [hI4d]; exact imX_up c7 e5
    have hS4 : imS I4 q4 kn := ⟨qa, by rw [hI4d, hkn]; exact imUp_self, by rw [hkn]; exact hx4.1 _ _ k3⟩
    have hO4 := hO3.alloc hf4 hx4 hI4
    obtain ⟨w1, w2, w3, w4, w5, w6, w7, w8, w9, w10, w11⟩ := id hO4
    have w9a := w9.1
    have w9l := w9.2.1
    obtain ⟨wvl, w9o⟩ := w9l.ob
    refine xr_astore C d_TK_run_108 110 rfl rfl rfl ?_
    refine xr_aload C d_TK_run_110 112 rfl rfl ?_
    refine xr_get C K_Ma 0 d_TK_run_112 115 rfl q_89 (Or.inl rfl) rfl (by first | assumption | exact xup_self | exact (xup_ne (by assumption)).trans (by assumption) | exact (xup_ne (Ne.symm (by assumption))).trans (by assumption) | exact (xup_ne (by assumption)).trans xup_self | exact (xup_ne (Ne.symm (by assumption))).trans xup_self) rfl ?_
    refine xr_iload C d_TK_run_115 117 rfl rfl ?_
    refine xr_aload C d_TK_run_117 119 rfl rfl ?_
    refine xr_callV C (l_set w9l hj2 (hS4.ob hI4)) k_AL_set d_TK_run_119 122 rfl w9o rfl (Or.inl q_439) v_AL_set e_AL_set h_AL_set rfl ⟨Nat.le_of_ble_eq_true rfl, Nat.le_of_ble_eq_true rfl, Nat.le_of_ble_eq_true rfl⟩ (by omega) (by omega) (fun v9 X5 hP => ?_) (fun _ _ h => absurd h.1 (by simp))
    obtain ⟨e7, e8, e9⟩ := hP
    cases e7
    have hknl : kn.2.2.2.2.length ≤ 104 := by rw [hkn]; exact hkl
    have hO5 := hO4.sets hj1 hS4 hknl e8 e9
    obtain ⟨y1, y2, y3, y4, y5, y6, y7, y8, y9, y10, y11⟩ := id hO5
    obtain ⟨qb, z1, z2, z3⟩ := hS4.use y7
    rw [hkn] at z1
    have y9a := y9.1
    refine xr_pop C d_TK_run_122 123 rfl rfl ?_
    refine xr_iload C d_TK_run_123 125 rfl rfl ?_
    refine xr_aload C d_TK_run_125 127 rfl rfl ?_
    refine xr_get C K_Se 2 d_TK_run_127 130 rfl q_318 (Or.inl rfl) rfl (by first | assumption | exact xup_self | exact (xup_ne (by assumption)).trans (by assumption) | exact (xup_ne (Ne.symm (by assumption))).trans (by assumption) | exact (xup_ne (by assumption)).trans xup_self | exact (xup_ne (Ne.symm (by assumption))).trans xup_self) rfl ?_
    refine xr_icmp_ge C d_TK_run_130 133 135 rfl (by decide) (fun h130 => ?_) (fun h130 => ?_)
    rotate_left
    · have hlt : sr < k0.2.2.1 := Int32.not_le.mp h130
      have hra : runAt (s.2.1 i) s.1 p sr w j = (3, ((s.2.1 i).1.set j kn, (s.2.1 i).2.1, p), [], p) := by
        unfold runAt
        rw [← hk0, if_pos hlt, hkn]
      rw [hfm, hra] at C
      refine xr_iconst (v := 3) C d_TK_run_133 134 rfl (by decide) ?_
      exact xr_iret C d_TK_run_134 (by omega) (by omega) ⟨xEnd_ok, hO5.nil.tk' hi (Nat.le_refl _) (Nat.le_refl _) hx4.1⟩
    refine xr_iload C d_TK_run_135 137 rfl rfl ?_
    refine xr_aload C d_TK_run_137 139 rfl rfl ?_
    refine xr_get C K_Se 2 d_TK_run_139 142 rfl q_318 (Or.inl rfl) rfl (by first | assumption | exact xup_self | exact (xup_ne (by assumption)).trans (by assumption) | exact (xup_ne (Ne.symm (by assumption))).trans (by assumption) | exact (xup_ne (by assumption)).trans xup_self | exact (xup_ne (Ne.symm (by assumption))).trans xup_self) rfl ?_
    refine xr_icmp_ne C d_TK_run_142 145 168 rfl (by decide) (fun h142 => ?_) (fun h142 => ?_)
    rotate_left
    · have hra : runAt (s.2.1 i) s.1 p sr w j = (1, ((s.2.1 i).1.set j kn, (s.2.1 i).2.1, p), k0.2.2.2.2, k0.2.2.2.1) := by
        unfold runAt
        rw [← hk0, if_neg (Int32.not_lt.mpr h130), if_pos h142, hkn]
      rw [hfm, hra] at C
      rw [hkn] at z3
      have z5r := y5.at
      have hge := y5.ge
      refine xr_aload_n C d_TK_run_145 146 rfl rfl ?_
      refine xr_get C K_TK 3 d_TK_run_146 149 rfl q_120 (Or.inl rfl) rfl (by first | assumption | exact xup_self | exact (xup_ne (by assumption)).trans (by assumption) | exact (xup_ne (Ne.symm (by assumption))).trans (by assumption) | exact (xup_ne (by assumption)).trans xup_self | exact (xup_ne (Ne.symm (by assumption))).trans xup_self) rfl ?_
      refine xr_aload C d_TK_run_149 151 rfl rfl ?_
      refine xr_get C K_Se 4 d_TK_run_151 154 rfl q_322 (Or.inl rfl) rfl (by first | assumption | exact xup_self | exact (xup_ne (by assumption)).trans (by assumption) | exact (xup_ne (Ne.symm (by assumption))).trans (by assumption) | exact (xup_ne (by assumption)).trans xup_self | exact (xup_ne (Ne.symm (by assumption))).trans xup_self) rfl ?_
      refine xr_callV C (n_addAll y7 y5 y6 z3 (by rw [List.length_nil]; show 0 + k0.2.2.2.2.length ≤ _; omega)) k_Ro_addAll d_TK_run_154 157 rfl z5r rfl (Or.inl q_443) v_Ro_addAll e_Ro_addAll h_Ro_addAll rfl ⟨Nat.le_of_ble_eq_true rfl, Nat.le_of_ble_eq_true rfl, Nat.le_of_ble_eq_true rfl⟩ (by omega) (by omega) (fun v9 X6 hP => ?_) (fun _ _ h => absurd h.1 (by simp))
      obtain ⟨f1, f2⟩ := hP
      cases f1
      rw [List.nil_append] at f2
      obtain ⟨br6, hO6⟩ := hO5.rs f2
      have hO7 := hO6.self (n' := 0) (lp' := k0.2.2.2.1)
      have g1 := hO6.1
      obtain ⟨qc, z4, -⟩ := hS4.use hO6.2.2.2.2.2.2.1
      rw [hkn] at z4
      refine xr_aload_n C d_TK_run_157 158 rfl rfl ?_
      refine xr_aload C d_TK_run_158 160 rfl rfl ?_
      refine xr_get C K_Se 3 d_TK_run_160 163 rfl q_320 (Or.inl rfl) rfl (by first | assumption | exact xup_self | exact (xup_ne (by assumption)).trans (by assumption) | exact (xup_ne (Ne.symm (by assumption))).trans (by assumption) | exact (xup_ne (by assumption)).trans xup_self | exact (xup_ne (Ne.symm (by assumption))).trans xup_self) rfl ?_
      refine xr_put C K_TK 5 d_TK_run_163 166 rfl q_122 (Or.inl rfl) rfl rfl rfl rfl (by first | assumption | exact xup_self | exact (xup_ne (by assumption)).trans (by assumption) | exact (xup_ne (Ne.symm (by assumption))).trans (by assumption) | exact (xup_ne (by assumption)).trans xup_self | exact (xup_ne (Ne.symm (by assumption))).trans xup_self) rfl rfl ?_
      refine xr_iconst (v := 1) C d_TK_run_166 167 rfl (by decide) ?_
      exact xr_iret C d_TK_run_167 (by omega) (by omega) ⟨xEnd_ok, hO7.nil.tk' hi (Nat.le_refl _) (Nat.le_refl _) hx4.1⟩
    have hra : runAt (s.2.1 i) s.1 p sr w j = (0, ((s.2.1 i).1.set j (k0.1, p, sr, p, (opF w (s.2.1 i).2.1 s.1).2), (opF w (s.2.1 i).2.1 s.1).1, p), (opF w (s.2.1 i).2.1 s.1).2, p) := by
      unfold runAt
      rw [← hk0, if_neg (Int32.not_lt.mpr h130), if_neg h142]
    rw [hfm, hra] at C
    have hol := opF_len (s := w) (ts := s.1) a12.2.2
    refine xr_aload_n C d_TK_run_168 169 rfl rfl ?_
    refine xr_aload C d_TK_run_169 171 rfl rfl ?_
    refine xr_get C K_Ma 1 d_TK_run_171 174 rfl q_91 (Or.inl rfl) rfl (by first | assumption | exact xup_self | exact (xup_ne (by assumption)).trans (by assumption) | exact (xup_ne (Ne.symm (by assumption))).trans (by assumption) | exact (xup_ne (by assumption)).trans xup_self | exact (xup_ne (Ne.symm (by assumption))).trans xup_self) rfl ?_
    refine xr_iload C d_TK_run_174 176 rfl rfl ?_
    refine xr_iload C d_TK_run_176 178 rfl rfl ?_
    refine xr_callV C (c_TK_operate y7 y9.2.2.2.2.1 hw y1 y2 y5 y6 y8 hc) k_TK_operate d_TK_run_178 181 rfl y1 rfl (Or.inl q_461) v_TK_operate e_TK_operate h_TK_operate rfl ⟨Nat.le_of_ble_eq_true rfl, Nat.le_of_ble_eq_true rfl, Nat.le_of_ble_eq_true rfl⟩ (by omega) (by omega) (fun v9 X6 hP => ?_) (fun _ _ h => absurd h.1 (by simp))
    obtain ⟨f1, f2⟩ := hP
    cases f1
    obtain ⟨I6, b6, c6', a6, br6, q1, q2, hO6⟩ := hO5.q f2
    obtain ⟨g1, g2, g3, g4, g5, g6, g7, g8, g9, g10, g11⟩ := id hO6
    have g5r := g5.at
    have g9a := g9.1
    refine xr_aload C d_TK_run_181 183 rfl rfl ?_
    refine xr_get C K_Ma 0 d_TK_run_183 186 rfl q_89 (Or.inl rfl) rfl (by first | assumption | exact xup_self | exact (xup_ne (by assumption)).trans (by assumption) | exact (xup_ne (Ne.symm (by assumption))).trans (by assumption) | exact (xup_ne (by assumption)).trans xup_self | exact (xup_ne (Ne.symm (by assumption))).trans xup_self) rfl ?_
    refine xr_iload C d_TK_run_186 188 rfl rfl ?_
    refine xr_aload C d_TK_run_188 190 rfl rfl ?_
    refine xr_iload C d_TK_run_190 192 rfl rfl ?_
    refine xr_iload_n C d_TK_run_192 193 rfl rfl ?_
    refine xr_aload_n C d_TK_run_193 194 rfl rfl ?_
    refine xr_get C K_TK 3 d_TK_run_194 197 rfl q_120 (Or.inl rfl) rfl (by first | assumption | exact xup_self | exact (xup_ne (by assumption)).trans (by assumption) | exact (xup_ne (Ne.symm (by assumption))).trans (by assumption) | exact (xup_ne (by assumption)).trans xup_self | exact (xup_ne (Ne.symm (by assumption))).trans xup_self) rfl ?_
    refine xr_callV C (c_Ro_copied g5 (show 0 < (opF w (s.2.1 i).2.1 s.1).2.length by omega) (show (opF w (s.2.1 i).2.1 s.1).2.length < 256 by omega)) k_Ro_copied d_TK_run_197 200 rfl g5r rfl (Or.inl q_773) v_Ro_copied e_Ro_copied h_Ro_copied rfl ⟨Nat.le_of_ble_eq_true rfl, Nat.le_of_ble_eq_true rfl, Nat.le_of_ble_eq_true rfl⟩ (by omega) (by omega) (fun v9 X7 hP => ?_) (fun _ _ h => by obtain ⟨q, h, -⟩ := h; cases h)
    obtain ⟨q7, f3, f4, f5, f6⟩ := hP
    cases f3
    obtain ⟨I7, hI7d⟩ : ∃ z, z = imUp I6 q7 (.inl (opF w (s.2.1 i).2.1 s.1).2) := ⟨_, rfl⟩
    have hI7 : xIm E.D X7 I7 := by rw [hI7d]; exact (g7.keep f5 (fun _ h => absurd h List.not_mem_nil)).up f6
    have hx7 : imX X6 I6 I7 := by rw [hI7d]; exact imX_up g7 f4
    have hO7 := hO6.alloc f5 hx7 hI7
    obtain ⟨qb7, z7, -⟩ := ((hS4.le q1.1).le hx7.1).use hI7
    rw [hkn] at z7
    refine xr_callV C (c_Se_answered (s1 := sr) (z := p) (q1 := q7) z7) k_Se_answered d_TK_run_200 203 rfl z7 rfl (Or.inl q_777) v_Se_answered e_Se_answered h_Se_answered rfl ⟨Nat.le_of_ble_eq_true rfl, Nat.le_of_ble_eq_true rfl, Nat.le_of_ble_eq_true rfl⟩ (by omega) (by omega) (fun v9 X8 hP => ?_) (fun _ _ h => by obtain ⟨q, h, -⟩ := h; cases h)
    obtain ⟨q8, f7, f8, f9⟩ := hP
    cases f7
    obtain ⟨I8, hI8d⟩ : ∃ z, z = imUp I7 q8 (.inr (.inl (k0.1, p, sr, p, q7))) := ⟨_, rfl⟩
    have hf8 : xFr [] X7 X8 := by rw [f9]; exact xFr_new f8
    have hI8 : xIm E.D X8 I8 := by rw [f9, hI8d]; exact hI7.new f8 xup_self
    have hx8 : imX X7 I7 I8 := by rw [hI8d]; exact imX_up hI7 f8
    have hS8 : imS I8 q8 (k0.1, p, sr, p, (opF w (s.2.1 i).2.1 s.1).2) := ⟨q7, by rw [hI8d]; exact imUp_self, hx8.1 _ _ (by rw [hI7d]; exact imUp_self)⟩
    have hO8 := hO7.alloc hf8 hx8 hI8
    have r9 := hO8.2.2.2.2.2.2.2.2.1
    have r9l := r9.2.1
    obtain ⟨rvl, r9o⟩ := r9l.ob
    have hj9 : j < (as1.set j q4).length := by rw [List.length_set]; exact hj2
    refine xr_callV C (l_set r9l hj9 (hS8.ob hI8)) k_AL_set d_TK_run_203 206 rfl r9o rfl (Or.inl q_439) v_AL_set e_AL_set h_AL_set rfl ⟨Nat.le_of_ble_eq_true rfl, Nat.le_of_ble_eq_true rfl, Nat.le_of_ble_eq_true rfl⟩ (by omega) (by omega) (fun v9 X9 hP => ?_) (fun _ _ h => absurd h.1 (by simp))
    obtain ⟨e10, e11, e12⟩ := hP
    cases e10
    have hO9 := hO8.sets (j := j) (show j < ((s.2.1 i).1.set j kn).length by rw [List.length_set]; exact hj1) hS8 (by show (opF w (s.2.1 i).2.1 s.1).2.length ≤ 104; omega) e11 e12
    have hss : ((s.2.1 i).1.set j kn).set j (k0.1, p, sr, p, (opF w (s.2.1 i).2.1 s.1).2) = (s.2.1 i).1.set j (k0.1, p, sr, p, (opF w (s.2.1 i).2.1 s.1).2) := List.set_set ..
    have hO9' := hO9.eqm (m' := ((s.2.1 i).1.set j (k0.1, p, sr, p, (opF w (s.2.1 i).2.1 s.1).2), (opF w (s.2.1 i).2.1 s.1).1, p)) (Prod.ext hss rfl)
    refine xr_pop C d_TK_run_206 207 rfl rfl ?_
    refine xr_iconst (v := 0) C d_TK_run_207 208 rfl (by decide) ?_
    exact xr_iret C d_TK_run_208 (by omega) (by omega) ⟨xEnd_ok, hO9'.nil.tk' hi (Nat.le_refl _) q2 (hx4.1.trans (q1.1.trans (hx7.1.trans hx8.1)))⟩
