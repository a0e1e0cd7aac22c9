/-! The calls: row, make, feed; a new object. -/
def fRow (s : St) (z : Int32) : Nat × Int32 × St :=
  if z = 0 ∨ z = 1 then (0, nI (telM (s.2.1 (mIx z)).1 (s.2.1 (mIx z)).2.1).length, (s.1, s.2.1, telM (s.2.1 (mIx z)).1 (s.2.1 (mIx z)).2.1, s.2.2.2)) else (1, 0, s)
/-- rooms only grow; the row's is d -/
def vLd (V V' : Nat → Nat) (d : Nat) : Prop := V' 1 = d ∧ V 20 ≤ V' 20 ∧ V 21 ≤ V' 21 ∧ V 40 ≤ V' 40 ∧ V 41 ≤ V' 41
theorem vLd_U {V : Nat → Nat} {i bs be br d : Nat} (hi : i < 2) : vLd V (vU V i bs (V (20 + i)) be (V (40 + i)) br d) d := by
  have wo : ∀ k, 2 ≤ k → k ≠ 10 + i → k ≠ 20 + i → k ≠ 30 + i → k ≠ 40 + i → vU V i bs (V (20 + i)) be (V (40 + i)) br d k = V k := fun k k1 k2 k3 k4 k5 => (if_neg (by omega)).trans ((if_neg (by omega)).trans ((if_neg k2).trans ((if_neg k3).trans ((if_neg k4).trans (if_neg k5)))))
  have w1 : vU V i bs (V (20 + i)) be (V (40 + i)) br d 1 = d := (if_neg (by omega)).trans (if_pos rfl)
  have w20 : vU V i bs (V (20 + i)) be (V (40 + i)) br d (20 + i) = V (20 + i) := (if_neg (by omega)).trans ((if_neg (by omega)).trans ((if_neg (by omega)).trans (if_pos rfl)))
  have w40 : vU V i bs (V (20 + i)) be (V (40 + i)) br d (40 + i) = V (40 + i) := (if_neg (by omega)).trans ((if_neg (by omega)).trans ((if_neg (by omega)).trans ((if_neg (by omega)).trans ((if_neg (by omega)).trans (if_pos rfl)))))
  have o20 := wo (20 + (1 - i)) (by omega) (by omega) (by omega) (by omega) (by omega)
  have o40 := wo (40 + (1 - i)) (by omega) (by omega) (by omega) (by omega) (by omega)
  clear wo
  generalize vU V i bs (V (20 + i)) be (V (40 + i)) br d = W at *
  have h01 : i = 0 ∨ i = 1 := by omega
  rcases h01 with e | e
  · subst e
    exact ⟨w1, Nat.le_of_eq w20.symm, Nat.le_of_eq o20.symm, Nat.le_of_eq w40.symm, Nat.le_of_eq o40.symm⟩
  · subst e
    exact ⟨w1, Nat.le_of_eq o20.symm, Nat.le_of_eq w20.symm, Nat.le_of_eq o40.symm, Nat.le_of_eq w40.symm⟩
set_option maxRecDepth 100000 in
set_option maxHeartbeats 4000000 in
theorem c_TK_row {l : Launch} {D : va_G} {H0 : Heap} {X : xH} {F V : Nat → Nat} {I : Nat → Option Imm} {s : St} (hK : xTK D X F V I s) {z : Int32} {d : Nat} (hd : if z = 0 ∨ z = 1 then isR (V 1) (8 + rbS (s.2.1 (mIx z)).1 + rbE (s.2.1 (mIx z)).2.1) d else d = V 1) : xMet l D H0 y_TK_row b_TK_row 3 (some .int) [] 5 (d - V 1 + 1) (2 * (d - V 1) + 6) [.ref (F 0), .int z] X (fun o X' => xEnd "java/lang/IndexOutOfBoundsException" "" ((fRow s z).1, (fRow s z).2.1) o ∧ ∃ V' I', vLd V V' d ∧ imLe I I' ∧ xTK D X' F V' I' (fRow s z).2.2) := by
  have htk := hK.1
  refine ⟨[some (.ref (F 0)), some (.int z), none], rfl, Nat.le_of_ble_eq_true rfl, fun E hD hH hl _ C => ?_⟩
  subst hD
  subst hH
  subst hl
  refine xr_aload_n C d_TK_row_0 1 rfl rfl ?_
  refine xr_iload_n C d_TK_row_1 2 rfl rfl ?_
  rcases mach_ix z with hz | ⟨i, hi, rfl⟩
  · have hf : fRow s z = (1, 0, s) := if_neg (notM hz)
    rw [hf] at C
    rw [if_neg (notM hz)] at hd
    subst hd
    refine xr_callV C (c_TK_machineOfX hz) k_TK_machineOf d_TK_row_2 5 rfl htk rfl (Or.inl q_240) v_TK_machineOf e_TK_machineOf h_TK_machineOf rfl ⟨Nat.le_of_ble_eq_true rfl, Nat.le_of_ble_eq_true rfl, Nat.le_of_ble_eq_true rfl⟩ (by omega) (by omega) (fun _ _ h => absurd h.1 (by simp)) (fun Cn X9 hP => ?_)
    obtain ⟨h1, rfl⟩ := hP
    cases h1
    exact xTh_out C (by omega) (by omega) ⟨xEnd_1, V, I, ⟨rfl, Nat.le_refl _, Nat.le_refl _, Nat.le_refl _, Nat.le_refl _⟩, imLe.rf, hK⟩
  · obtain ⟨as1, as2, hO⟩ := hK.ow hi
    obtain ⟨-, o2, o3, o4, o5, o6, o7, o8, o9, o10, o11⟩ := id hO
    obtain ⟨a1, a2, a3, a4, a5, a6, a7⟩ := id o9
    obtain ⟨avl, a8⟩ := a2.ob
    obtain ⟨a9, a10, a11, a12⟩ := id a5
    obtain ⟨avk, a13⟩ := a10.ob
    have hl1 := a3.1
    have hl2 := a11.1
    have hl3 := a4.1
    have hl4 := a12.1
    have hfm : fRow s (nI i) = (0, nI (telM (s.2.1 i).1 (s.2.1 i).2.1).length, (s.1, s.2.1, telM (s.2.1 i).1 (s.2.1 i).2.1, s.2.2.2)) := by
      unfold fRow
      rw [if_pos (isM_of hi), mIx_nI (by omega)]
    rw [hfm] at C
    rw [if_pos (isM_of hi), mIx_nI (by omega)] at hd
    have htop := rb_top a4 a12
    have hcap := o5.cap
    have hdt : d ≤ 32767 := by
      rcases hd.top with h | h <;> omega
    have o5r := o5.at
    refine xr_callV C (n_mach htk hi) k_TK_machineOf d_TK_row_2 5 rfl htk rfl (Or.inl q_240) v_TK_machineOf e_TK_machineOf h_TK_machineOf rfl ⟨Nat.le_of_ble_eq_true rfl, Nat.le_of_ble_eq_true rfl, Nat.le_of_ble_eq_true rfl⟩ (by omega) (by omega) (fun v9 X hP => ?_) (fun _ _ h => absurd h.1 (by simp))
    obtain ⟨h1, rfl⟩ := hP
    cases h1
    refine xr_astore_n C d_TK_row_5 6 rfl rfl rfl ?_
    refine xr_aload_n C d_TK_row_6 7 rfl rfl ?_
    refine xr_get C K_TK 3 d_TK_row_7 10 rfl q_120 (Or.inl rfl) rfl (by first | assumption | exact xup_self | exact (xup_ne (by assumption)).trans (by assumption) | exact (xup_ne (Ne.symm (by assumption))).trans (by assumption) | exact (xup_ne (by assumption)).trans xup_self | exact (xup_ne (Ne.symm (by assumption))).trans xup_self) rfl ?_
    refine xr_callV C (c_Ro_empty o5) k_Ro_empty d_TK_row_10 13 rfl o5r rfl (Or.inl q_423) v_Ro_empty e_Ro_empty h_Ro_empty rfl ⟨Nat.le_of_ble_eq_true rfl, Nat.le_of_ble_eq_true rfl, Nat.le_of_ble_eq_true rfl⟩ (by omega) (by omega) (fun v9 X1 hP => ?_) (fun _ _ h => absurd h.1 (by simp))
    obtain ⟨e1, e2, e3⟩ := hP
    cases e1
    have hO1 := hO.emp e2 e3
    obtain ⟨c1, c2, c3, c4, c5, c6, c7, c8, c9, c10, c11⟩ := id hO1
    have c9a := c9.1
    have hled := hd.le
    have hrn := c5.nob c7
    refine xr_aload_n C d_TK_row_13 14 rfl rfl ?_
    refine xr_aload_n C d_TK_row_14 15 rfl rfl ?_
    refine xr_get C K_TK 3 d_TK_row_15 18 rfl q_120 (Or.inl rfl) rfl (by first | assumption | exact xup_self | exact (xup_ne (by assumption)).trans (by assumption) | exact (xup_ne (Ne.symm (by assumption))).trans (by assumption) | exact (xup_ne (by assumption)).trans xup_self | exact (xup_ne (Ne.symm (by assumption))).trans xup_self) rfl ?_
    refine xr_callV C (c_Ma_tell c7 c9 c5 c6 hd hdt) k_Ma_tell d_TK_row_18 21 rfl c9a rfl (Or.inl q_819) v_Ma_tell e_Ma_tell h_Ma_tell rfl ⟨Nat.le_of_ble_eq_true rfl, Nat.le_of_ble_eq_true rfl, Nat.le_of_ble_eq_true rfl⟩ (by omega) (by omega) (fun v9 X2 hP => ?_) (fun _ _ h => absurd h.1 (by simp))
    obtain ⟨e4, e5⟩ := hP
    cases e4
    obtain ⟨br', q1, q2, q3, q4, q5⟩ := e5.rs c7 hrn c6
    have hO2 := hO1.row q3 q1 q2 q4 q5
    have d1 := hO2.1
    have d5 := hO2.2.2.2.2.1.at
    refine xr_aload_n C d_TK_row_21 22 rfl rfl ?_
    refine xr_get C K_TK 3 d_TK_row_22 25 rfl q_120 (Or.inl rfl) rfl (by first | assumption | exact xup_self | exact (xup_ne (by assumption)).trans (by assumption) | exact (xup_ne (Ne.symm (by assumption))).trans (by assumption) | exact (xup_ne (by assumption)).trans xup_self | exact (xup_ne (Ne.symm (by assumption))).trans xup_self) rfl ?_
    refine xr_get C K_Ro 1 d_TK_row_25 28 rfl q_110 (Or.inl rfl) rfl (by first | assumption | exact xup_self | exact (xup_ne (by assumption)).trans (by assumption) | exact (xup_ne (Ne.symm (by assumption))).trans (by assumption) | exact (xup_ne (by assumption)).trans xup_self | exact (xup_ne (Ne.symm (by assumption))).trans xup_self) rfl ?_
    exact xr_iret C d_TK_row_28 (by omega) (by omega) ⟨xEnd_ok, _, I, vLd_U hi, imLe.rf, hO2.tk hi rfl rfl⟩
def fMake (s : St) (z1 z2 : Int32) : Nat × Int32 × St :=
  if (z1 = 0 ∨ z1 = 1) ∧ (z2 = 0 ∨ z2 = 1) then
    (0, if (s.2.1 (mIx z1)).1 = (s.2.1 (mIx z2)).1 ∧ (s.2.1 (mIx z1)).2.1 = (s.2.1 (mIx z2)).2.1 then 0 else 1, (s.1, upM s.2.1 (mIx z2) ((s.2.1 (mIx z1)).1, (s.2.1 (mIx z1)).2.1, if (s.2.1 (mIx z2)).2.2 < (s.2.1 (mIx z1)).2.2 then (s.2.1 (mIx z1)).2.2 else (s.2.1 (mIx z2)).2.2), s.2.2.1, s.2.2.2))
  else (1, 0, s)
/-- are the machines different, so that one is copied -/
abbrev mkD (s : St) (z1 z2 : Int32) : Prop := ((z1 = 0 ∨ z1 = 1) ∧ (z2 = 0 ∨ z2 = 1)) ∧ ¬ ((s.2.1 (mIx z1)).1 = (s.2.1 (mIx z2)).1 ∧ (s.2.1 (mIx z1)).2.1 = (s.2.1 (mIx z2)).2.1)
/-- the rooms of machine j are d1, d2 -/
def vMk (V V' : Nat → Nat) (j d1 d2 : Nat) : Prop := V' 1 = V 1 ∧ ∀ k, k = 20 ∨ k = 21 ∨ k = 40 ∨ k = 41 → V' k = if k = 20 + j then d1 else if k = 40 + j then d2 else V k
theorem vMk_U {V : Nat → Nat} {i bs be br d1 d2 : Nat} (hi : i < 2) : vMk V (vU V i bs d1 be d2 br (V 1)) i d1 d2 := by
  refine ⟨(if_neg (by omega)).trans (if_pos rfl), fun k hk => ?_⟩
  unfold vU
  rw [if_neg (show ¬ k = 0 by omega), if_neg (show ¬ k = 1 by omega), if_neg (show ¬ k = 10 + i by omega)]
  by_cases h1 : k = 20 + i
  · rw [if_pos h1, if_pos h1]
  · rw [if_neg h1, if_neg h1, if_neg (show ¬ k = 30 + i by omega)]
theorem vMk_id {V : Nat → Nat} {j : Nat} : vMk V V j (V (20 + j)) (V (40 + j)) := by
  refine ⟨rfl, fun k hk => ?_⟩
  by_cases h1 : k = 20 + j
  · rw [if_pos h1, h1]
  · rw [if_neg h1]
    by_cases h2 : k = 40 + j
    · rw [if_pos h2, h2]
    · rw [if_neg h2]
set_option maxRecDepth 100000 in
set_option maxHeartbeats 4000000 in
theorem c_TK_make {l : Launch} {D : va_G} {H0 : Heap} {X : xH} {F V : Nat → Nat} {I : Nat → Option Imm} {s : St} (hK : xTK D X F V I s) {z1 z2 : Int32} {d1 d2 : Nat} (hd : if mkD s z1 z2 then isL (V (20 + mIx z2)) (s.2.1 (mIx z1)).1.length d1 ∧ isL (V (40 + mIx z2)) (s.2.1 (mIx z1)).2.1.length d2 else d1 = V (20 + mIx z2) ∧ d2 = V (40 + mIx z2)) : xMet l D H0 y_TK_make b_TK_make 6 (some .boolean) [] 7 ((d1 - V (20 + mIx z2)) + (d2 - V (40 + mIx z2)) + 1) (200 * ((d1 - V (20 + mIx z2)) + (d2 - V (40 + mIx z2))) + 6) [.ref (F 0), .int z1, .int z2] X (fun o X' => xEnd "java/lang/IndexOutOfBoundsException" "" ((fMake s z1 z2).1, (fMake s z1 z2).2.1) o ∧ ∃ V' I', vMk V V' (mIx z2) d1 d2 ∧ imLe I I' ∧ xTK D X' F V' I' (fMake s z1 z2).2.2) := by
  have htk := hK.1
  refine ⟨[some (.ref (F 0)), some (.int z1), some (.int z2), none, none, none], rfl, Nat.le_of_ble_eq_true rfl, fun E hD hH hl _ C => ?_⟩
  subst hD
  subst hH
  subst hl
  refine xr_aload_n C d_TK_make_0 1 rfl rfl ?_
  refine xr_iload_n C d_TK_make_1 2 rfl rfl ?_
  rcases mach_ix z1 with hz | ⟨j, hj, rfl⟩
  · have hf : fMake s z1 z2 = (1, 0, s) := if_neg (fun q => notM hz q.1)
    rw [hf] at C
    rw [if_neg (fun q => notM hz q.1.1)] at hd
    obtain ⟨hd1, hd2⟩ := hd
    rw [hd1, hd2] at C
    refine xr_callV C (c_TK_machineOfX hz) k_TK_machineOf d_TK_make_2 5 rfl htk rfl (Or.inl q_240) v_TK_machineOf e_TK_machineOf h_TK_machineOf rfl ⟨Nat.le_of_ble_eq_true rfl, Nat.le_of_ble_eq_true rfl, Nat.le_of_ble_eq_true rfl⟩ (by omega) (by omega) (fun _ _ h => absurd h.1 (by simp)) (fun Cn X9 hP => ?_)
    obtain ⟨h1, rfl⟩ := hP
    cases h1
    exact xTh_out C (by omega) (by omega) ⟨xEnd_1, V, I, vMk_id, imLe.rf, hK⟩
  · refine xr_callV C (n_mach htk hj) k_TK_machineOf d_TK_make_2 5 rfl htk rfl (Or.inl q_240) v_TK_machineOf e_TK_machineOf h_TK_machineOf rfl ⟨Nat.le_of_ble_eq_true rfl, Nat.le_of_ble_eq_true rfl, Nat.le_of_ble_eq_true rfl⟩ (by omega) (by omega) (fun v9 X hP => ?_) (fun _ _ h => absurd h.1 (by simp))
    obtain ⟨h1, rfl⟩ := hP
    cases h1
    refine xr_astore_n C d_TK_make_5 6 rfl rfl rfl ?_
    refine xr_aload_n C d_TK_make_6 7 rfl rfl ?_
    refine xr_iload_n C d_TK_make_7 8 rfl rfl ?_
    rcases mach_ix z2 with hz | ⟨i, hi, rfl⟩
    · have hf : fMake s (nI j) z2 = (1, 0, s) := if_neg (fun q => notM hz q.2)
      rw [hf] at C
      rw [if_neg (fun q => notM hz q.1.2)] at hd
      obtain ⟨hd1, hd2⟩ := hd
      rw [hd1, hd2] at C
      refine xr_callV C (c_TK_machineOfX hz) k_TK_machineOf d_TK_make_8 11 rfl htk rfl (Or.inl q_240) v_TK_machineOf e_TK_machineOf h_TK_machineOf rfl ⟨Nat.le_of_ble_eq_true rfl, Nat.le_of_ble_eq_true rfl, Nat.le_of_ble_eq_true rfl⟩ (by omega) (by omega) (fun _ _ h => absurd h.1 (by simp)) (fun Cn X9 hP => ?_)
      obtain ⟨h1, rfl⟩ := hP
      cases h1
      exact xTh_out C (by omega) (by omega) ⟨xEnd_1, V, I, vMk_id, imLe.rf, hK⟩
    refine xr_callV C (n_mach htk hi) k_TK_machineOf d_TK_make_8 11 rfl htk rfl (Or.inl q_240) v_TK_machineOf e_TK_machineOf h_TK_machineOf rfl ⟨Nat.le_of_ble_eq_true rfl, Nat.le_of_ble_eq_true rfl, Nat.le_of_ble_eq_true rfl⟩ (by omega) (by omega) (fun v9 X hP => ?_) (fun _ _ h => absurd h.1 (by simp))
    obtain ⟨h1, rfl⟩ := hP
    cases h1
    obtain ⟨as1, as2, hO⟩ := hK.ow hi
    obtain ⟨-, o2, o3, o4, o5, o6, o7, o8, o9, o10, o11⟩ := id hO
    obtain ⟨a1, a2, a3, a4, a5, a6, a7⟩ := id o9
    obtain ⟨avl, a8⟩ := a2.ob
    obtain ⟨a9, a10, a11, a12⟩ := id a5
    obtain ⟨avk, a13⟩ := a10.ob
    have hl1 := a3.1
    have hl2 := a11.1
    have hl3 := a4.1
    have hl4 := a12.1
    have hij : j = i ∨ j = 1 - i := by omega
    have hfm : fMake s (nI j) (nI i) = (0, if (s.2.1 j).1 = (s.2.1 i).1 ∧ (s.2.1 j).2.1 = (s.2.1 i).2.1 then 0 else 1, (s.1, upM s.2.1 i ((s.2.1 j).1, (s.2.1 j).2.1, if (s.2.1 i).2.2 < (s.2.1 j).2.2 then (s.2.1 j).2.2 else (s.2.1 i).2.2), s.2.2.1, s.2.2.2)) := by
      unfold fMake
      rw [if_pos ⟨isM_of hj, isM_of hi⟩, mIx_nI (by omega), mIx_nI (by omega)]
    rw [hfm, mIx_nI (show i < 2 ^ 31 by omega)] at C
    unfold mkD at hd
    rw [mIx_nI (show i < 2 ^ 31 by omega), mIx_nI (show j < 2 ^ 31 by omega)] at hd
    have hsrc : ∃ (b1 c1 b2 c2 : Nat) (l1 l2 : List Nat), xMac E.D X I (F (10 + j)) (F (20 + j)) b1 c1 (F (30 + j)) (F (40 + j)) b2 c2 l1 l2 (s.2.1 j).1 (s.2.1 j).2.1 (s.2.1 j).2.2 := by
      obtain ⟨q1, q2, hq⟩ := hK.ow hj
      exact ⟨_, _, _, _, q1, q2, hq.2.2.2.2.2.2.2.2.1⟩
    obtain ⟨sb1, sc1, sb2, sc2, sl1, sl2, hsrc⟩ := hsrc
    have hsa := hsrc.1
    have tail : ∀ (Y : xH) (I' : Nat → Option Imm) (m' : Mc) (b1 b2 c s' : Nat) (v : Int32) (l1 l2 : List Nat), xOw E.D Y F V I' i m' (s.2.1 (1 - i)) b1 d1 b2 d2 (V 0) (V 1) s.1 s.2.2.1 (nI s.1.length) s.2.2.2 l1 l2 → imLe I I' → m'.1 = (s.2.1 j).1 → m'.2.1 = (s.2.1 j).2.1 → m'.2.2 = (s.2.1 i).2.2 → (v = 0 ∨ v = 1) → v = (if (s.2.1 j).1 = (s.2.1 i).1 ∧ (s.2.1 j).2.1 = (s.2.1 i).2.1 then 0 else 1) → c ≤ (d1 - V (20 + i)) + (d2 - V (40 + i)) + 1 → s' ≤ 200 * ((d1 - V (20 + i)) + (d2 - V (40 + i))) + 6 → xG E Y c s' 40 [some (.ref (F 0)), some (.int (nI j)), some (.int (nI i)), some (.ref (F (10 + j))), some (.ref (F (10 + i))), some (.int v)] [] := by
      intro Y I' m' b1 b2 c s' v l1 l2 hY gI g1 g2 g3 gv gv2 gc gs
      obtain ⟨y1, y2, y3, y4, y5, y6, y7, y8, y9, y10, y11⟩ := id hY
      have ya := y9.1
      have yb : ∃ w1 w2, Y (F (10 + j)) = some (.inr (1, [w1, w2, .int (s.2.1 j).2.2])) := by
        rcases hij with e | e
        · subst e
          exact ⟨_, _, by rw [← g3]; exact ya⟩
        · subst e
          obtain ⟨q1, q2, q3⟩ := y10
          exact ⟨_, _, q3.1⟩
      obtain ⟨w1, w2, yb⟩ := yb
      refine xr_aload C d_TK_make_40 42 rfl rfl ?_
      refine xr_aload C d_TK_make_42 44 rfl rfl ?_
      refine xr_get C K_Ma 2 d_TK_make_44 47 rfl q_93 (Or.inl rfl) rfl (by first | assumption | exact xup_self | exact (xup_ne (by assumption)).trans (by assumption) | exact (xup_ne (Ne.symm (by assumption))).trans (by assumption) | exact (xup_ne (by assumption)).trans xup_self | exact (xup_ne (Ne.symm (by assumption))).trans xup_self) rfl ?_
      refine xr_aload_n C d_TK_make_47 48 rfl rfl ?_
      refine xr_get C K_Ma 2 d_TK_make_48 51 rfl q_93 (Or.inl rfl) rfl (by first | assumption | exact xup_self | exact (xup_ne (by assumption)).trans (by assumption) | exact (xup_ne (Ne.symm (by assumption))).trans (by assumption) | exact (xup_ne (by assumption)).trans xup_self | exact (xup_ne (Ne.symm (by assumption))).trans xup_self) rfl ?_
      refine xr_max C d_TK_make_51 54 rfl q_878 w_max (Nat.le_of_ble_eq_true rfl) (by omega) (by omega) ?_
      rw [g3]
      refine xr_put C K_Ma 2 d_TK_make_54 57 rfl q_93 (Or.inl rfl) rfl rfl rfl rfl (by first | assumption | exact xup_self | exact (xup_ne (by assumption)).trans (by assumption) | exact (xup_ne (Ne.symm (by assumption))).trans (by assumption) | exact (xup_ne (by assumption)).trans xup_self | exact (xup_ne (Ne.symm (by assumption))).trans xup_self) rfl rfl ?_
      refine xr_iload C d_TK_make_57 59 rfl rfl ?_
      have hY2 := hY.setg (g := if (s.2.1 i).2.2 < (s.2.1 j).2.2 then (s.2.1 j).2.2 else (s.2.1 i).2.2)
      refine xr_zret C d_TK_make_59 (by rcases gv with e | e <;> subst e <;> rfl) (by omega) (by omega) ⟨?_, _, I', vMk_U hi, gI, hY2.tk hi (M := upM s.2.1 i ((s.2.1 j).1, (s.2.1 j).2.1, if (s.2.1 i).2.2 < (s.2.1 j).2.2 then (s.2.1 j).2.2 else (s.2.1 i).2.2)) (upM_self.trans ?_) (upM_ne (oth_ne hi))⟩
      · rw [gv2]
        exact xEnd_ok
      · rw [g1, g2]
    refine xr_astore C d_TK_make_11 13 rfl rfl rfl ?_
    refine xr_aload_n C d_TK_make_13 14 rfl rfl ?_
    refine xr_aload C d_TK_make_14 16 rfl rfl ?_
    refine xr_callV C (c_Ma_hasRowOf o7 hsrc o9) k_Ma_hasRowOf d_TK_make_16 19 rfl hsa rfl (Or.inl q_844) v_Ma_hasRowOf e_Ma_hasRowOf h_Ma_hasRowOf rfl ⟨Nat.le_of_ble_eq_true rfl, Nat.le_of_ble_eq_true rfl, Nat.le_of_ble_eq_true rfl⟩ (by omega) (by omega) (fun v9 X hP => ?_) (fun _ _ h => absurd h.1 (by simp))
    obtain ⟨h1, rfl⟩ := hP
    cases h1
    by_cases hc : (s.2.1 j).1 = (s.2.1 i).1 ∧ (s.2.1 j).2.1 = (s.2.1 i).2.1
    · rw [if_neg (fun q => q.2 hc)] at hd
      obtain ⟨hd1, hd2⟩ := hd
      subst hd1
      subst hd2
      refine xr_toi (if_pos hc) ?_
      refine xr_if_ne C d_TK_make_19 22 26 rfl (by decide) (fun _ => ?_) (fun h => absurd h (by decide))
      refine xr_iconst (v := 0) C d_TK_make_26 27 rfl (by decide) ?_
      refine xr_istore C d_TK_make_27 29 rfl rfl rfl ?_
      refine xr_iload C d_TK_make_29 31 rfl rfl ?_
      refine xr_if_eq C d_TK_make_31 34 40 rfl (by decide) (fun _ => ?_) (fun h => absurd rfl h)
      exact tail X I (s.2.1 i) _ _ _ _ 0 as1 as2 hO imLe.rf hc.1.symm hc.2.symm rfl (Or.inl rfl) (by rw [if_pos hc]) (by omega) (by omega)
    · rw [if_pos ⟨⟨isM_of hj, isM_of hi⟩, hc⟩] at hd
      have hne : j = 1 - i := by
        rcases hij with e | e
        · subst e
          exact absurd ⟨rfl, rfl⟩ hc
        · exact e
      obtain ⟨hd1, hd2⟩ := hd
      obtain ⟨q1, q2, hB⟩ := o10
      refine xr_toi (if_neg hc) ?_
      refine xr_if_ne C d_TK_make_19 22 26 rfl (by decide) (fun h => absurd rfl h) (fun _ => ?_)
      refine xr_iconst (v := 1) C d_TK_make_22 23 rfl (by decide) ?_
      refine xr_goto C d_TK_make_23 27 (by decide) ?_
      refine xr_istore C d_TK_make_27 29 rfl rfl rfl ?_
      refine xr_iload C d_TK_make_29 31 rfl rfl ?_
      refine xr_if_eq C d_TK_make_31 34 40 rfl (by decide) (fun h => absurd h (by decide)) (fun _ => ?_)
      refine xr_aload C d_TK_make_34 36 rfl rfl ?_
      refine xr_aload_n C d_TK_make_36 37 rfl rfl ?_
      subst hne
      refine xr_callV C (c_Ma_copyRowOf o7 o9 hB o11 hd1 hd2) k_Ma_copyRowOf d_TK_make_37 40 rfl a1 rfl (Or.inl q_866) v_Ma_copyRowOf e_Ma_copyRowOf h_Ma_copyRowOf rfl ⟨Nat.le_of_ble_eq_true rfl, Nat.le_of_ble_eq_true rfl, Nat.le_of_ble_eq_true rfl⟩ (by omega) (by omega) (fun v9 X1 hP => ?_) (fun _ _ h => absurd h.1 (by simp))
      obtain ⟨e1, e2, b1, b2, e3, e4, e5, e6⟩ := hP
      cases e1
      have hO1 := hO.mach (m' := ((s.2.1 (1 - i)).1, (s.2.1 (1 - i)).2.1, (s.2.1 i).2.2)) imX.rf e2 e3 (e4.mono (fun q hq => List.mem_cons_of_mem _ hq)) e5 e6
      exact tail X1 I _ b1 b2 _ _ 1 _ _ hO1 imLe.rf rfl rfl rfl (Or.inr rfl) (by rw [if_neg hc]) (by omega) (by omega)
