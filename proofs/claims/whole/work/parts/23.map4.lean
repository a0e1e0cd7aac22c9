/-! The map: put, swap, remove. -/
def putK (es : List Es) (k v : List Int32) : List Es × List Int32 :=
  if fnb es k < es.length ∧ (eD es (fnb es k)).1 = k then
    if uns (es.set (fnb es k) ((eD es (fnb es k)).1, v)) ≤ 700 then (es.set (fnb es k) ((eD es (fnb es k)).1, v), num 1 1 ++ (eD es (fnb es k)).2) else (es, num 2 1)
  else if es.length < 128 ∧ uns es + un (k, v) ≤ 700 then (insAt es (fnb es k) (k, v), num 0 1) else (es, num 2 1)
def swapK (es : List Es) (k x v : List Int32) : List Es × List Int32 :=
  if fnb es k < es.length ∧ (eD es (fnb es k)).1 = k then
    if (eD es (fnb es k)).2 = x then
      if uns (es.set (fnb es k) ((eD es (fnb es k)).1, v)) ≤ 700 then (es.set (fnb es k) ((eD es (fnb es k)).1, v), num 1 1) else (es, num 2 1)
    else (es, num 0 1 ++ (eD es (fnb es k)).2)
  else (es, num 3 1)
def remK (es : List Es) (k : List Int32) : List Es × List Int32 :=
  if fnb es k < es.length ∧ (eD es (fnb es k)).1 = k then (es.eraseIdx (fnb es k), num 1 1 ++ (eD es (fnb es k)).2) else (es, num 0 1)
set_option maxRecDepth 100000 in
set_option maxHeartbeats 4000000 in
theorem c_KM_put {l : Launch} {D : va_G} {H0 : Heap} {X : xH} {mp la b cap : Nat} {as : List Nat} {es : List Es} {I : Nat → Option Imm} (hI : xIm D X I) (hM : xMap D X I mp la b cap as es) {r br rc : Nat} (hR : xRow D X r br rc []) (hb : I br = none) {kq : Nat} {key : List Int32} (hk : I kq = some (.inl key)) {vq : Nat} {value : List Int32} (hv : I vq = some (.inl value)) (hoe : okE (key, value)) (hEm : I (D.2 200 0) = some (.inl [])) : xMet l D H0 y_KM_put b_KM_put 8 none [] 6 2 202 [.ref mp, .ref kq, .ref vq, .ref r] X (fun o X' => o = .inl none ∧ xQ D X X' I r br rc mp la b cap (putK es key value).1 (putK es key value).2) := by
  have hM0 := hM
  obtain ⟨hmp, hL, hE, hok⟩ := hM
  obtain ⟨vl, hl⟩ := hL.ob
  have hlen := hE.1
  have hle := hL.len
  have hrg := hR.ge
  obtain ⟨fr0, hbr0⟩ := hR.arr
  have hfl := fnb_le key es
  refine ⟨[some (.ref mp), some (.ref kq), some (.ref vq), some (.ref r), none, none, none, none], rfl, Nat.le_of_ble_eq_true rfl, fun E hD hH hl _ C => ?_⟩
  subst hD
  subst hH
  subst hl
  have fail : ∀ (X1 : xH) (I1 : Nat → Option Imm) (b1 cap1 c s : Nat) (as1 : List Nat) (h : Int32) (bq : Nat) (es1 : List Es), imX X I I1 → xIm E.D X1 I1 → xMap E.D X1 I1 mp la b1 cap1 as1 es1 → xFr [mp, la, b] X X1 → (b1 = b ∨ X b1 = none) → cap ≤ cap1 → c ≤ 2 → s ≤ 202 → putK es key value = (es1, num 2 1) → xG E X1 c s 67 [some (.ref mp), some (.ref kq), some (.ref vq), some (.ref r), some (.int (nI (fnb es key))), some (.int h), some (.ref bq), none] [.int 0] := by
    intro X1 I1 b1 cap1 c s as1 h bq es1 m1 m2 m3 m4 m5 m6 hc1 hs1 hpk
    have hR1 := hR.keepM hM0 m4
    have hr1 := hR1.at
    have hb1 := m1.2 _ _ hbr0 hb
    refine xr_istore C d_KM_put_67 69 rfl rfl rfl ?_
    refine xr_iload C d_KM_put_69 71 rfl rfl ?_
    refine xr_if_ne C d_KM_put_71 74 81 rfl (by decide) (fun h => absurd rfl h) (fun _ => ?_)
    refine xr_aload_n C d_KM_put_74 75 rfl rfl ?_
    refine xr_iconst (v := 2) C d_KM_put_75 76 rfl (by decide) ?_
    refine xr_iconst (v := 1) C d_KM_put_76 77 rfl (by decide) ?_
    refine xr_callV C (n_addNumber (v := 2) (n := 1) m2 hR1 hb1 (by omega) (by rw [List.length_nil]; omega)) k_Ro_addNumber d_KM_put_77 80 rfl hr1 rfl (Or.inl q_751) v_Ro_addNumber e_Ro_addNumber h_Ro_addNumber rfl ⟨Nat.le_of_ble_eq_true rfl, Nat.le_of_ble_eq_true rfl, Nat.le_of_ble_eq_true rfl⟩ (by omega) (by omega) (fun v9 X' hP => ?_) (fun _ _ h => absurd h.1 (by simp))
    obtain ⟨e1, hS⟩ := hP
    cases e1
    rw [List.nil_append] at hS
    refine xr_vret C d_KM_put_80 (by omega) (by omega) ⟨rfl, ?_⟩
    rw [hpk]
    exact xQ_mk m1 m3 m4 m5 m6 hR1 hS
  have done : ∀ (X1 : xH) (I1 : Nat → Option Imm) (b1 cap1 c s : Nat) (as1 : List Nat) (h : Int32) (bq : Nat) (es1 : List Es) (bef : List Int32), imX X I I1 → xIm E.D X1 I1 → xMap E.D X1 I1 mp la b1 cap1 as1 es1 → xFr [mp, la, b] X X1 → (b1 = b ∨ X b1 = none) → cap ≤ cap1 → c ≤ 2 → s ≤ 202 → (h = 0 ∨ h = 1) → I1 bq = some (.inl bef) → bef.length ≤ 100 → putK es key value = (es1, num h 1 ++ bef) → xG E X1 c s 67 [some (.ref mp), some (.ref kq), some (.ref vq), some (.ref r), some (.int (nI (fnb es key))), some (.int h), some (.ref bq), none] [.int 1] := by
    intro X1 I1 b1 cap1 c s as1 h bq es1 bef m1 m2 m3 m4 m5 m6 hc1 hs1 hh hbe hbl hpk
    have hR1 := hR.keepM hM0 m4
    have hr1 := hR1.at
    have hb1 := m1.2 _ _ hbr0 hb
    have t92 : xG E X1 c s 92 [some (.ref mp), some (.ref kq), some (.ref vq), some (.ref r), some (.int (nI (fnb es key))), some (.int h), some (.ref bq), some (.int 1)] [.int h, .ref r] := by
      refine xr_iconst (v := 1) C d_KM_put_92 93 rfl (by decide) ?_
      refine xr_callV C (n_addNumber (v := h) (n := 1) m2 hR1 hb1 (by omega) (by rw [List.length_nil]; omega)) k_Ro_addNumber d_KM_put_93 96 rfl hr1 rfl (Or.inl q_751) v_Ro_addNumber e_Ro_addNumber h_Ro_addNumber rfl ⟨Nat.le_of_ble_eq_true rfl, Nat.le_of_ble_eq_true rfl, Nat.le_of_ble_eq_true rfl⟩ (by omega) (by omega) (fun v9 X' hP => ?_) (fun _ _ h => absurd h.1 (by simp))
      obtain ⟨e1, hS⟩ := hP
      cases e1
      obtain ⟨br2, hR2, hb2, hI2, hf2, hn2⟩ := hS
      have hr2 := hR2.at
      refine xr_aload_n C d_KM_put_96 97 rfl rfl ?_
      refine xr_aload C d_KM_put_97 99 rfl rfl ?_
      refine xr_callV C (n_addAll hI2 hR2 hb2 hbe (by simp only [List.length_append, num_len, List.length_nil]; omega)) k_Ro_addAll d_KM_put_99 102 rfl hr2 rfl (Or.inl q_755) v_Ro_addAll e_Ro_addAll h_Ro_addAll rfl ⟨Nat.le_of_ble_eq_true rfl, Nat.le_of_ble_eq_true rfl, Nat.le_of_ble_eq_true rfl⟩ (by omega) (by omega) (fun v9 X' hP => ?_) (fun _ _ h => absurd h.1 (by simp))
      obtain ⟨e1, hS⟩ := hP
      cases e1
      replace hS := xRs.then hf2 hn2 hS
      rw [List.nil_append] at hS
      refine xr_vret C d_KM_put_102 (by omega) (by omega) ⟨rfl, ?_⟩
      rw [hpk]
      exact xQ_mk m1 m3 m4 m5 m6 hR1 hS
    refine xr_istore C d_KM_put_67 69 rfl rfl rfl ?_
    refine xr_iload C d_KM_put_69 71 rfl rfl ?_
    refine xr_if_ne C d_KM_put_71 74 81 rfl (by decide) (fun _ => ?_) (fun h => absurd h (by decide))
    refine xr_aload_n C d_KM_put_81 82 rfl rfl ?_
    refine xr_iload C d_KM_put_82 84 rfl rfl ?_
    rcases hh with e | e
    · subst e
      refine xr_if_eq C d_KM_put_84 87 91 rfl (by decide) (fun _ => ?_) (fun h => absurd rfl h)
      refine xr_iconst (v := 0) C d_KM_put_91 92 rfl (by decide) ?_
      exact t92
    · subst e
      refine xr_if_eq C d_KM_put_84 87 91 rfl (by decide) (fun h => absurd h (by decide)) (fun _ => ?_)
      refine xr_iconst (v := 1) C d_KM_put_87 88 rfl (by decide) ?_
      refine xr_goto C d_KM_put_88 92 (by decide) ?_
      exact t92
  refine xr_aload_n C d_KM_put_0 1 rfl rfl ?_
  refine xr_aload_n C d_KM_put_1 2 rfl rfl ?_
  refine xr_callV C (c_KM_firstNotBelow hI hM0 (hI _ _ hk)) k_KM_firstNotBelow d_KM_put_2 5 rfl (by first | assumption | exact xup_self | exact (xup_ne (by assumption)).trans (by assumption) | exact (xup_ne (Ne.symm (by assumption))).trans (by assumption) | exact (xup_ne (by assumption)).trans xup_self | exact (xup_ne (Ne.symm (by assumption))).trans xup_self) rfl (Or.inl q_685) v_KM_firstNotBelow e_KM_firstNotBelow h_KM_firstNotBelow rfl ⟨Nat.le_of_ble_eq_true rfl, Nat.le_of_ble_eq_true rfl, Nat.le_of_ble_eq_true rfl⟩ (by omega) (by omega) (fun v9 X hP => ?_) (fun _ _ h => absurd h.1 (by simp))
  obtain ⟨h1, rfl⟩ := hP
  cases h1
  refine xr_istore C d_KM_put_5 7 rfl rfl rfl ?_
  refine xr_aload_n C d_KM_put_7 8 rfl rfl ?_
  refine xr_iload C d_KM_put_8 10 rfl rfl ?_
  refine xr_aload_n C d_KM_put_10 11 rfl rfl ?_
  refine xr_callV C (c_KM_isAt hI hM0 (hI _ _ hk) (by omega)) k_KM_isAt d_KM_put_11 14 rfl (by first | assumption | exact xup_self | exact (xup_ne (by assumption)).trans (by assumption) | exact (xup_ne (Ne.symm (by assumption))).trans (by assumption) | exact (xup_ne (by assumption)).trans xup_self | exact (xup_ne (Ne.symm (by assumption))).trans xup_self) rfl (Or.inl q_696) v_KM_isAt e_KM_isAt h_KM_isAt rfl ⟨Nat.le_of_ble_eq_true rfl, Nat.le_of_ble_eq_true rfl, Nat.le_of_ble_eq_true rfl⟩ (by omega) (by omega) (fun v9 X hP => ?_) (fun _ _ h => absurd h.1 (by simp))
  obtain ⟨h1, rfl⟩ := hP
  cases h1
  by_cases hc : fnb es key < es.length ∧ (eD es (fnb es key)).1 = key
  · have i1 : fnb es key < as.length := by omega
    obtain ⟨p, q, k1, k2, k3, k4, k5⟩ := (hE.2 _ i1).use hI
    have hok1 := hok.2.2 _ (eD_mem hc.1)
    refine xr_toi (if_pos hc) ?_
    refine xr_istore C d_KM_put_14 16 rfl rfl rfl ?_
    refine xr_iload C d_KM_put_16 18 rfl rfl ?_
    refine xr_if_eq C d_KM_put_18 21 39 rfl (by decide) (fun h => absurd h (by decide)) (fun _ => ?_)
    refine xr_aload_n C d_KM_put_21 22 rfl rfl ?_
    refine xr_get C K_KM 0 d_KM_put_22 25 rfl q_77 (Or.inl rfl) rfl (by first | assumption | exact xup_self | exact (xup_ne (by assumption)).trans (by assumption) | exact (xup_ne (Ne.symm (by assumption))).trans (by assumption) | exact (xup_ne (by assumption)).trans xup_self | exact (xup_ne (Ne.symm (by assumption))).trans xup_self) rfl ?_
    refine xr_iload C d_KM_put_25 27 rfl rfl ?_
    refine xr_callV C (l_get hL i1) k_AL_get d_KM_put_27 30 rfl (by first | assumption | exact xup_self | exact (xup_ne (by assumption)).trans (by assumption) | exact (xup_ne (Ne.symm (by assumption))).trans (by assumption) | exact (xup_ne (by assumption)).trans xup_self | exact (xup_ne (Ne.symm (by assumption))).trans xup_self) rfl (Or.inl q_690) v_AL_get e_AL_get h_AL_get rfl ⟨Nat.le_of_ble_eq_true rfl, Nat.le_of_ble_eq_true rfl, Nat.le_of_ble_eq_true rfl⟩ (by omega) (by omega) (fun v9 X hP => ?_) (fun _ _ h => absurd h.1 (by simp))
    obtain ⟨h1, rfl⟩ := hP
    cases h1
    refine xr_cast C d_KM_put_30 33 rfl k1 rfl q_691 ?_
    refine xr_get C K_En 1 d_KM_put_33 36 rfl q_714 (Or.inl rfl) rfl (by first | assumption | exact xup_self | exact (xup_ne (by assumption)).trans (by assumption) | exact (xup_ne (Ne.symm (by assumption))).trans (by assumption) | exact (xup_ne (by assumption)).trans xup_self | exact (xup_ne (Ne.symm (by assumption))).trans xup_self) rfl ?_
    refine xr_goto C d_KM_put_36 42 (by decide) ?_
    refine xr_astore C d_KM_put_42 44 rfl rfl rfl ?_
    refine xr_iload C d_KM_put_44 46 rfl rfl ?_
    refine xr_if_eq C d_KM_put_46 49 59 rfl (by decide) (fun h => absurd h (by decide)) (fun _ => ?_)
    refine xr_aload_n C d_KM_put_49 50 rfl rfl ?_
    refine xr_iload C d_KM_put_50 52 rfl rfl ?_
    refine xr_aload_n C d_KM_put_52 53 rfl rfl ?_
    refine xr_callV C (c_KM_replace hI hM0 hv hc.1 hoe.2.2) k_KM_replace d_KM_put_53 56 rfl (by first | assumption | exact xup_self | exact (xup_ne (by assumption)).trans (by assumption) | exact (xup_ne (Ne.symm (by assumption))).trans (by assumption) | exact (xup_ne (by assumption)).trans xup_self | exact (xup_ne (Ne.symm (by assumption))).trans xup_self) rfl (Or.inl q_701) v_KM_replace e_KM_replace h_KM_replace rfl ⟨Nat.le_of_ble_eq_true rfl, Nat.le_of_ble_eq_true rfl, Nat.le_of_ble_eq_true rfl⟩ (by omega) (by omega) (fun v9 X1 hP => ?_) (fun _ _ h => absurd h.1 (by simp))
    obtain ⟨e1, I1, b1, cap1, as1, m1, m2, m3, m4, m5, m6⟩ := hP
    cases e1
    refine xr_goto C d_KM_put_56 67 (by decide) ?_
    by_cases hcd : uns (es.set (fnb es key) ((eD es (fnb es key)).1, value)) ≤ 700
    · rw [if_pos hcd] at m3
      refine xr_toi (if_pos hcd) ?_
      exact done X1 I1 b1 cap1 _ _ as1 1 q _ (eD es (fnb es key)).2 m1 m2 m3 m4 m5 m6 (by omega) (by omega) (Or.inr rfl) (m1.1 _ _ k5) hok1.2.2 (by unfold putK; rw [if_pos hc, if_pos hcd])
    · rw [if_neg hcd] at m3
      refine xr_toi (if_neg hcd) ?_
      exact fail X1 I1 b1 cap1 _ _ as1 1 q _ m1 m2 m3 m4 m5 m6 (by omega) (by omega) (by unfold putK; rw [if_pos hc, if_neg hcd])
  · refine xr_toi (if_neg hc) ?_
    refine xr_istore C d_KM_put_14 16 rfl rfl rfl ?_
    refine xr_iload C d_KM_put_16 18 rfl rfl ?_
    refine xr_if_eq C d_KM_put_18 21 39 rfl (by decide) (fun _ => ?_) (fun h => absurd rfl h)
    refine xr_gets C C.kk.2.2.1 d_KM_put_39 42 rfl (Or.inr ⟨_, q_700⟩) ?_
    refine xr_astore C d_KM_put_42 44 rfl rfl rfl ?_
    refine xr_iload C d_KM_put_44 46 rfl rfl ?_
    refine xr_if_eq C d_KM_put_46 49 59 rfl (by decide) (fun _ => ?_) (fun h => absurd rfl h)
    refine xr_aload_n C d_KM_put_59 60 rfl rfl ?_
    refine xr_iload C d_KM_put_60 62 rfl rfl ?_
    refine xr_aload_n C d_KM_put_62 63 rfl rfl ?_
    refine xr_aload_n C d_KM_put_63 64 rfl rfl ?_
    refine xr_callV C (c_KM_insert hI hM0 hk hv hfl hoe) k_KM_insert d_KM_put_64 67 rfl (by first | assumption | exact xup_self | exact (xup_ne (by assumption)).trans (by assumption) | exact (xup_ne (Ne.symm (by assumption))).trans (by assumption) | exact (xup_ne (by assumption)).trans xup_self | exact (xup_ne (Ne.symm (by assumption))).trans xup_self) rfl (Or.inl q_726) v_KM_insert e_KM_insert h_KM_insert rfl ⟨Nat.le_of_ble_eq_true rfl, Nat.le_of_ble_eq_true rfl, Nat.le_of_ble_eq_true rfl⟩ (by omega) (by omega) (fun v9 X1 hP => ?_) (fun _ _ h => absurd h.1 (by simp))
    obtain ⟨e1, I1, b1, cap1, as1, m1, m2, m3, m4, m5, m6⟩ := hP
    cases e1
    by_cases hcd : es.length < 128 ∧ uns es + un (key, value) ≤ 700
    · rw [if_pos hcd] at m3
      refine xr_toi (if_pos hcd) ?_
      exact done X1 I1 b1 cap1 _ _ as1 0 _ _ [] m1 m2 m3 m4 m5 m6 (by omega) (by omega) (Or.inl rfl) (m1.1 _ _ hEm) (by rw [List.length_nil]; omega) (by unfold putK; rw [if_neg hc, if_pos hcd]; rfl)
    · rw [if_neg hcd] at m3
      refine xr_toi (if_neg hcd) ?_
      exact fail X1 I1 b1 cap1 _ _ as1 0 _ _ m1 m2 m3 m4 m5 m6 (by omega) (by omega) (by unfold putK; rw [if_neg hc, if_neg hcd])
set_option maxRecDepth 100000 in
set_option maxHeartbeats 4000000 in
theorem c_KM_swap {l : Launch} {D : va_G} {H0 : Heap} {X : xH} {mp la b cap : Nat} {as : List Nat} {es : List Es} {I : Nat → Option Imm} (hI : xIm D X I) (hM : xMap D X I mp la b cap as es) {r br rc : Nat} (hR : xRow D X r br rc []) (hb : I br = none) {kq : Nat} {key : List Int32} (hk : I kq = some (.inl key)) {xq vq : Nat} {expd value : List Int32} (hx : I xq = some (.inl expd)) (hv : I vq = some (.inl value)) (hvl : value.length ≤ 100) : xMet l D H0 y_KM_swap b_KM_swap 7 none [] 5 1 2 [.ref mp, .ref kq, .ref xq, .ref vq, .ref r] X (fun o X' => o = .inl none ∧ xQ D X X' I r br rc mp la b cap (swapK es key expd value).1 (swapK es key expd value).2) := by
  have hM0 := hM
  obtain ⟨hmp, hL, hE, hok⟩ := hM
  obtain ⟨vl, hl⟩ := hL.ob
  have hlen := hE.1
  have hle := hL.len
  have hrg := hR.ge
  obtain ⟨fr0, hbr0⟩ := hR.arr
  have hfl := fnb_le key es
  refine ⟨[some (.ref mp), some (.ref kq), some (.ref xq), some (.ref vq), some (.ref r), none, none], rfl, Nat.le_of_ble_eq_true rfl, fun E hD hH hl _ C => ?_⟩
  subst hD
  subst hH
  subst hl
  refine xr_aload_n C d_KM_swap_0 1 rfl rfl ?_
  refine xr_aload_n C d_KM_swap_1 2 rfl rfl ?_
  refine xr_callV C (c_KM_indexOf hI hM0 (hI _ _ hk)) k_KM_indexOf d_KM_swap_2 5 rfl (by first | assumption | exact xup_self | exact (xup_ne (by assumption)).trans (by assumption) | exact (xup_ne (Ne.symm (by assumption))).trans (by assumption) | exact (xup_ne (by assumption)).trans xup_self | exact (xup_ne (Ne.symm (by assumption))).trans xup_self) rfl (Or.inl q_760) v_KM_indexOf e_KM_indexOf h_KM_indexOf rfl ⟨Nat.le_of_ble_eq_true rfl, Nat.le_of_ble_eq_true rfl, Nat.le_of_ble_eq_true rfl⟩ (by omega) (by omega) (fun v9 X hP => ?_) (fun _ _ h => absurd h.1 (by simp))
  obtain ⟨h1, rfl⟩ := hP
  cases h1
  by_cases hc : fnb es key < es.length ∧ (eD es (fnb es key)).1 = key
  · refine xr_toi (show _ = nI (fnb es key) by unfold ixK; rw [if_pos hc]) ?_
    have i1 : fnb es key < as.length := by omega
    obtain ⟨p, q, k1, k2, k3, k4, k5⟩ := (hE.2 _ i1).use hI
    have hok1 := hok.2.2 _ (eD_mem hc.1)
    refine xr_istore C d_KM_swap_5 7 rfl rfl rfl ?_
    refine xr_iload C d_KM_swap_7 9 rfl rfl ?_
    refine xr_iconst (v := (-1)) C d_KM_swap_9 10 rfl (by decide) ?_
    refine xr_icmp_ne C d_KM_swap_10 13 21 rfl (by decide) (fun _ => ?_) (fun h => absurd (show nI (fnb es key) < 0 by rw [h]; decide) (nI_pos (by omega)))
    refine xr_aload_n C d_KM_swap_21 22 rfl rfl ?_
    refine xr_get C K_KM 0 d_KM_swap_22 25 rfl q_77 (Or.inl rfl) rfl (by first | assumption | exact xup_self | exact (xup_ne (by assumption)).trans (by assumption) | exact (xup_ne (Ne.symm (by assumption))).trans (by assumption) | exact (xup_ne (by assumption)).trans xup_self | exact (xup_ne (Ne.symm (by assumption))).trans xup_self) rfl ?_
    refine xr_iload C d_KM_swap_25 27 rfl rfl ?_
    refine xr_callV C (l_get hL i1) k_AL_get d_KM_swap_27 30 rfl (by first | assumption | exact xup_self | exact (xup_ne (by assumption)).trans (by assumption) | exact (xup_ne (Ne.symm (by assumption))).trans (by assumption) | exact (xup_ne (by assumption)).trans xup_self | exact (xup_ne (Ne.symm (by assumption))).trans xup_self) rfl (Or.inl q_690) v_AL_get e_AL_get h_AL_get rfl ⟨Nat.le_of_ble_eq_true rfl, Nat.le_of_ble_eq_true rfl, Nat.le_of_ble_eq_true rfl⟩ (by omega) (by omega) (fun v9 X hP => ?_) (fun _ _ h => absurd h.1 (by simp))
    obtain ⟨h1, rfl⟩ := hP
    cases h1
    refine xr_cast C d_KM_swap_30 33 rfl k1 rfl q_691 ?_
    refine xr_get C K_En 1 d_KM_swap_33 36 rfl q_714 (Or.inl rfl) rfl (by first | assumption | exact xup_self | exact (xup_ne (by assumption)).trans (by assumption) | exact (xup_ne (Ne.symm (by assumption))).trans (by assumption) | exact (xup_ne (by assumption)).trans xup_self | exact (xup_ne (Ne.symm (by assumption))).trans xup_self) rfl ?_
    refine xr_astore C d_KM_swap_36 38 rfl rfl rfl ?_
    refine xr_aload C d_KM_swap_38 40 rfl rfl ?_
    refine xr_aload_n C d_KM_swap_40 41 rfl rfl ?_
    refine xr_callS C (c_TK_compare k3 (hI _ _ hx)) k_TK_compare d_KM_swap_41 44 rfl (Or.inr ⟨_, q_692⟩) s_TK_compare in_TK_compare h_TK_compare rfl ⟨Nat.le_of_ble_eq_true rfl, Nat.le_of_ble_eq_true rfl, Nat.le_of_ble_eq_true rfl⟩ (by omega) (by omega) (fun v9 X hP => ?_) (fun _ _ h => by obtain ⟨v, h, -⟩ := h; cases h)
    obtain ⟨v, h1, rfl, c1, c2⟩ := hP
    cases h1
    refine xr_if_eq C d_KM_swap_44 47 62 rfl (by decide) (fun j44 => ?_) (fun j44 => ?_)
    · have hx2 := c1.mp j44
      refine xr_aload C d_KM_swap_62 64 rfl rfl ?_
      refine xr_aload_n C d_KM_swap_64 65 rfl rfl ?_
      refine xr_iload C d_KM_swap_65 67 rfl rfl ?_
      refine xr_aload_n C d_KM_swap_67 68 rfl rfl ?_
      refine xr_callV C (c_KM_replace hI hM0 hv hc.1 hvl) k_KM_replace d_KM_swap_68 71 rfl (by first | assumption | exact xup_self | exact (xup_ne (by assumption)).trans (by assumption) | exact (xup_ne (Ne.symm (by assumption))).trans (by assumption) | exact (xup_ne (by assumption)).trans xup_self | exact (xup_ne (Ne.symm (by assumption))).trans xup_self) rfl (Or.inl q_701) v_KM_replace e_KM_replace h_KM_replace rfl ⟨Nat.le_of_ble_eq_true rfl, Nat.le_of_ble_eq_true rfl, Nat.le_of_ble_eq_true rfl⟩ (by omega) (by omega) (fun v9 X1 hP => ?_) (fun _ _ h => absurd h.1 (by simp))
      obtain ⟨e1, I1, b1, cap1, as1, m1, m2, m3, m4, m5, m6⟩ := hP
      cases e1
      have hR1 := hR.keepM hM0 m4
      have hr1 := hR1.at
      have hb1 := m1.2 _ _ hbr0 hb
      by_cases hcd : uns (es.set (fnb es key) ((eD es (fnb es key)).1, value)) ≤ 700
      · rw [if_pos hcd] at m3
        refine xr_toi (if_pos hcd) ?_
        refine xr_if_eq C d_KM_swap_71 74 78 rfl (by decide) (fun h => absurd h (by decide)) (fun _ => ?_)
        refine xr_iconst (v := 1) C d_KM_swap_74 75 rfl (by decide) ?_
        refine xr_goto C d_KM_swap_75 79 (by decide) ?_
        refine xr_iconst (v := 1) C d_KM_swap_79 80 rfl (by decide) ?_
        refine xr_callV C (n_addNumber (v := 1) (n := 1) m2 hR1 hb1 (by omega) (by rw [List.length_nil]; omega)) k_Ro_addNumber d_KM_swap_80 83 rfl hr1 rfl (Or.inl q_751) v_Ro_addNumber e_Ro_addNumber h_Ro_addNumber rfl ⟨Nat.le_of_ble_eq_true rfl, Nat.le_of_ble_eq_true rfl, Nat.le_of_ble_eq_true rfl⟩ (by omega) (by omega) (fun v9 X' hP => ?_) (fun _ _ h => absurd h.1 (by simp))
        obtain ⟨e1, hS⟩ := hP
        cases e1
        rw [List.nil_append] at hS
        refine xr_vret C d_KM_swap_83 (by omega) (by omega) ⟨rfl, ?_⟩
        rw [show swapK es key expd value = (es.set (fnb es key) ((eD es (fnb es key)).1, value), num 1 1) by unfold swapK; rw [if_pos hc, if_pos hx2, if_pos hcd]]
        exact xQ_mk m1 m3 m4 m5 m6 hR1 hS
      · rw [if_neg hcd] at m3
        refine xr_toi (if_neg hcd) ?_
        refine xr_if_eq C d_KM_swap_71 74 78 rfl (by decide) (fun _ => ?_) (fun h => absurd rfl h)
        refine xr_iconst (v := 2) C d_KM_swap_78 79 rfl (by decide) ?_
        refine xr_iconst (v := 1) C d_KM_swap_79 80 rfl (by decide) ?_
        refine xr_callV C (n_addNumber (v := 2) (n := 1) m2 hR1 hb1 (by omega) (by rw [List.length_nil]; omega)) k_Ro_addNumber d_KM_swap_80 83 rfl hr1 rfl (Or.inl q_751) v_Ro_addNumber e_Ro_addNumber h_Ro_addNumber rfl ⟨Nat.le_of_ble_eq_true rfl, Nat.le_of_ble_eq_true rfl, Nat.le_of_ble_eq_true rfl⟩ (by omega) (by omega) (fun v9 X' hP => ?_) (fun _ _ h => absurd h.1 (by simp))
        obtain ⟨e1, hS⟩ := hP
        cases e1
        rw [List.nil_append] at hS
        refine xr_vret C d_KM_swap_83 (by omega) (by omega) ⟨rfl, ?_⟩
        rw [show swapK es key expd value = (es, num 2 1) by unfold swapK; rw [if_pos hc, if_pos hx2, if_neg hcd]]
        exact xQ_mk m1 m3 m4 m5 m6 hR1 hS
    · have hx2 : ¬ (eD es (fnb es key)).2 = expd := fun h => j44 (c1.mpr h)
      refine xr_aload C d_KM_swap_47 49 rfl rfl ?_
      refine xr_iconst (v := 0) C d_KM_swap_49 50 rfl (by decide) ?_
      refine xr_iconst (v := 1) C d_KM_swap_50 51 rfl (by decide) ?_
      have hr0 := hR.at
      refine xr_callV C (n_addNumber (v := 0) (n := 1) hI hR hb (by omega) (by rw [List.length_nil]; omega)) k_Ro_addNumber d_KM_swap_51 54 rfl hr0 rfl (Or.inl q_751) v_Ro_addNumber e_Ro_addNumber h_Ro_addNumber rfl ⟨Nat.le_of_ble_eq_true rfl, Nat.le_of_ble_eq_true rfl, Nat.le_of_ble_eq_true rfl⟩ (by omega) (by omega) (fun v9 X' hP => ?_) (fun _ _ h => absurd h.1 (by simp))
      obtain ⟨e1, hS⟩ := hP
      cases e1
      obtain ⟨br2, hR2, hb2, hI2, hf2, hn2⟩ := hS
      have hr2 := hR2.at
      refine xr_aload C d_KM_swap_54 56 rfl rfl ?_
      refine xr_aload C d_KM_swap_56 58 rfl rfl ?_
      refine xr_callV C (n_addAll hI2 hR2 hb2 k5 (by simp only [List.length_append, num_len, List.length_nil]; have := hok1.2.2; omega)) k_Ro_addAll d_KM_swap_58 61 rfl hr2 rfl (Or.inl q_755) v_Ro_addAll e_Ro_addAll h_Ro_addAll rfl ⟨Nat.le_of_ble_eq_true rfl, Nat.le_of_ble_eq_true rfl, Nat.le_of_ble_eq_true rfl⟩ (by omega) (by omega) (fun v9 X' hP => ?_) (fun _ _ h => absurd h.1 (by simp))
      obtain ⟨e1, hS⟩ := hP
      cases e1
      replace hS := xRs.then hf2 hn2 hS
      rw [List.nil_append] at hS
      refine xr_vret C d_KM_swap_61 (by omega) (by omega) ⟨rfl, ?_⟩
      rw [show swapK es key expd value = (es, num 0 1 ++ (eD es (fnb es key)).2) by unfold swapK; rw [if_pos hc, if_neg hx2]]
      exact hS.q hM0 hR
  · refine xr_toi (show _ = -1 by unfold ixK; rw [if_neg hc]) ?_
    refine xr_istore C d_KM_swap_5 7 rfl rfl rfl ?_
    refine xr_iload C d_KM_swap_7 9 rfl rfl ?_
    refine xr_iconst (v := (-1)) C d_KM_swap_9 10 rfl (by decide) ?_
    refine xr_icmp_ne C d_KM_swap_10 13 21 rfl (by decide) (fun h => absurd rfl h) (fun _ => ?_)
    refine xr_aload C d_KM_swap_13 15 rfl rfl ?_
    refine xr_iconst (v := 3) C d_KM_swap_15 16 rfl (by decide) ?_
    refine xr_iconst (v := 1) C d_KM_swap_16 17 rfl (by decide) ?_
    have hr0 := hR.at
    refine xr_callV C (n_addNumber (v := 3) (n := 1) hI hR hb (by omega) (by rw [List.length_nil]; omega)) k_Ro_addNumber d_KM_swap_17 20 rfl hr0 rfl (Or.inl q_751) v_Ro_addNumber e_Ro_addNumber h_Ro_addNumber rfl ⟨Nat.le_of_ble_eq_true rfl, Nat.le_of_ble_eq_true rfl, Nat.le_of_ble_eq_true rfl⟩ (by omega) (by omega) (fun v9 X' hP => ?_) (fun _ _ h => absurd h.1 (by simp))
    obtain ⟨e1, hS⟩ := hP
    cases e1
    rw [List.nil_append] at hS
    refine xr_vret C d_KM_swap_20 (by omega) (by omega) ⟨rfl, ?_⟩
    rw [show swapK es key expd value = (es, num 3 1) by unfold swapK; rw [if_neg hc]]
    exact hS.q hM0 hR
set_option maxRecDepth 100000 in
set_option maxHeartbeats 4000000 in
theorem c_KM_remove {l : Launch} {D : va_G} {H0 : Heap} {X : xH} {mp la b cap : Nat} {as : List Nat} {es : List Es} {I : Nat → Option Imm} (hI : xIm D X I) (hM : xMap D X I mp la b cap as es) {r br rc : Nat} (hR : xRow D X r br rc []) (hb : I br = none) {kq : Nat} {key : List Int32} (hk : I kq = some (.inl key)) : xMet l D H0 y_KM_remove b_KM_remove 4 none [] 5 0 0 [.ref mp, .ref kq, .ref r] X (fun o X' => o = .inl none ∧ xQ D X X' I r br rc mp la b cap (remK es key).1 (remK es key).2) := by
  have hM0 := hM
  obtain ⟨hmp, hL, hE, hok⟩ := hM
  obtain ⟨vl, hl⟩ := hL.ob
  have hlen := hE.1
  have hle := hL.len
  have hrg := hR.ge
  have hfl := fnb_le key es
  refine ⟨[some (.ref mp), some (.ref kq), some (.ref r), none], rfl, Nat.le_of_ble_eq_true rfl, fun E hD hH hl _ C => ?_⟩
  subst hD
  subst hH
  subst hl
  refine xr_aload_n C d_KM_remove_0 1 rfl rfl ?_
  refine xr_aload_n C d_KM_remove_1 2 rfl rfl ?_
  refine xr_callV C (c_KM_indexOf hI hM0 (hI _ _ hk)) k_KM_indexOf d_KM_remove_2 5 rfl (by first | assumption | exact xup_self | exact (xup_ne (by assumption)).trans (by assumption) | exact (xup_ne (Ne.symm (by assumption))).trans (by assumption) | exact (xup_ne (by assumption)).trans xup_self | exact (xup_ne (Ne.symm (by assumption))).trans xup_self) rfl (Or.inl q_760) v_KM_indexOf e_KM_indexOf h_KM_indexOf rfl ⟨Nat.le_of_ble_eq_true rfl, Nat.le_of_ble_eq_true rfl, Nat.le_of_ble_eq_true rfl⟩ (by omega) (by omega) (fun v9 X hP => ?_) (fun _ _ h => absurd h.1 (by simp))
  obtain ⟨h1, rfl⟩ := hP
  cases h1
  refine xr_istore_n C d_KM_remove_5 6 rfl rfl rfl ?_
  refine xr_aload_n C d_KM_remove_6 7 rfl rfl ?_
  refine xr_iload_n C d_KM_remove_7 8 rfl rfl ?_
  refine xr_aload_n C d_KM_remove_8 9 rfl rfl ?_
  refine xr_callV C (c_KM_tellValue hI hM0 hR hb) k_KM_tellValue d_KM_remove_9 12 rfl (by first | assumption | exact xup_self | exact (xup_ne (by assumption)).trans (by assumption) | exact (xup_ne (Ne.symm (by assumption))).trans (by assumption) | exact (xup_ne (by assumption)).trans xup_self | exact (xup_ne (Ne.symm (by assumption))).trans xup_self) rfl (Or.inl q_768) v_KM_tellValue e_KM_tellValue h_KM_tellValue rfl ⟨Nat.le_of_ble_eq_true rfl, Nat.le_of_ble_eq_true rfl, Nat.le_of_ble_eq_true rfl⟩ (by omega) (by omega) (fun v9 X1 hP => ?_) (fun _ _ h => absurd h.1 (by simp))
  obtain ⟨e1, hS⟩ := hP
  cases e1
  by_cases hc : fnb es key < es.length ∧ (eD es (fnb es key)).1 = key
  · have e0 : ixK es key = nI (fnb es key) := by unfold ixK; rw [if_pos hc]
    refine xG.eqL (show _ = [some (.ref mp), some (.ref kq), some (.ref r), some (.int (nI (fnb es key)))] by rw [e0]; rfl) ?_
    have i1 : fnb es key < as.length := by omega
    have hrk : remK es key = (es.eraseIdx (fnb es key), tvK es key) := by unfold remK tvK; rw [if_pos hc, if_pos hc]
    obtain ⟨br1, hR1, hb1, hI1, hf1, hn1⟩ := hS
    have hM1 := hM0.keepR hR hf1
    obtain ⟨hmp1, hL1, -, -⟩ := id hM1
    obtain ⟨vl1, hl1⟩ := hL1.ob
    obtain ⟨fb1, hbb1⟩ := hL1.ar
    have hEe := hE.2 _ i1
    obtain ⟨p, q, k1, k2, k3, k4, k5⟩ := hEe.use hI1
    have hus := uns_erase hc.1
    refine xr_iload_n C d_KM_remove_12 13 rfl rfl ?_
    refine xr_iconst (v := (-1)) C d_KM_remove_13 14 rfl (by decide) ?_
    refine xr_icmp_eq C d_KM_remove_14 17 49 rfl (by decide) (fun h => absurd (show nI (fnb es key) < 0 by rw [h]; decide) (nI_pos (by omega))) (fun _ => ?_)
    refine xr_aload_n C d_KM_remove_17 18 rfl rfl ?_
    refine xr_dup C d_KM_remove_18 19 rfl rfl ?_
    refine xr_get C K_KM 1 d_KM_remove_19 22 rfl q_80 (Or.inl rfl) rfl (by first | assumption | exact xup_self | exact (xup_ne (by assumption)).trans (by assumption) | exact (xup_ne (Ne.symm (by assumption))).trans (by assumption) | exact (xup_ne (by assumption)).trans xup_self | exact (xup_ne (Ne.symm (by assumption))).trans xup_self) rfl ?_
    refine xr_aload_n C d_KM_remove_22 23 rfl rfl ?_
    refine xr_get C K_KM 0 d_KM_remove_23 26 rfl q_77 (Or.inl rfl) rfl (by first | assumption | exact xup_self | exact (xup_ne (by assumption)).trans (by assumption) | exact (xup_ne (Ne.symm (by assumption))).trans (by assumption) | exact (xup_ne (by assumption)).trans xup_self | exact (xup_ne (Ne.symm (by assumption))).trans xup_self) rfl ?_
    refine xr_iload_n C d_KM_remove_26 27 rfl rfl ?_
    refine xr_callV C (l_get hL1 i1) k_AL_get d_KM_remove_27 30 rfl (by first | assumption | exact xup_self | exact (xup_ne (by assumption)).trans (by assumption) | exact (xup_ne (Ne.symm (by assumption))).trans (by assumption) | exact (xup_ne (by assumption)).trans xup_self | exact (xup_ne (Ne.symm (by assumption))).trans xup_self) rfl (Or.inl q_690) v_AL_get e_AL_get h_AL_get rfl ⟨Nat.le_of_ble_eq_true rfl, Nat.le_of_ble_eq_true rfl, Nat.le_of_ble_eq_true rfl⟩ (by omega) (by omega) (fun v9 X1 hP => ?_) (fun _ _ h => absurd h.1 (by simp))
    obtain ⟨h1, rfl⟩ := hP
    cases h1
    refine xr_cast C d_KM_remove_30 33 rfl k1 rfl q_691 ?_
    refine xr_callV C (c_En_units hI1 hEe) k_En_units d_KM_remove_33 36 rfl k1 rfl (Or.inl q_721) v_En_units e_En_units h_En_units rfl ⟨Nat.le_of_ble_eq_true rfl, Nat.le_of_ble_eq_true rfl, Nat.le_of_ble_eq_true rfl⟩ (by omega) (by omega) (fun v9 X1 hP => ?_) (fun _ _ h => absurd h.1 (by simp))
    obtain ⟨h1, rfl⟩ := hP
    cases h1
    refine xr_isub C d_KM_remove_36 37 rfl ?_
    refine xr_toi (show _ = nI (uns (es.eraseIdx (fnb es key))) from (pk_sub (by omega)).trans (by congr 1; omega)) ?_
    refine xr_put C K_KM 1 d_KM_remove_37 40 rfl q_80 (Or.inl rfl) rfl rfl rfl rfl (by first | assumption | exact xup_self | exact (xup_ne (by assumption)).trans (by assumption) | exact (xup_ne (Ne.symm (by assumption))).trans (by assumption) | exact (xup_ne (by assumption)).trans xup_self | exact (xup_ne (Ne.symm (by assumption))).trans xup_self) rfl rfl ?_
    refine xr_aload_n C d_KM_remove_40 41 rfl rfl ?_
    refine xr_get C K_KM 0 d_KM_remove_41 44 rfl q_77 (Or.inl rfl) rfl xup_self rfl ?_
    refine xr_iload_n C d_KM_remove_44 45 rfl rfl ?_
    have hL2 := hL1.keep1 (v := .inr (2, [.ref la, .int (nI (uns (es.eraseIdx (fnb es key))))])) hmp1 (by decide)
    have hI2 := hI1.up1 (v := .inr (2, [.ref la, .int (nI (uns (es.eraseIdx (fnb es key))))])) hmp1 (by decide) (by decide)
    obtain ⟨vl2, hl2⟩ := hL2.ob
    obtain ⟨fb2, hbb2⟩ := hL2.ar
    refine xr_callV C (l_remove hL2 i1 (hE.ob hI2)) k_AL_remove d_KM_remove_45 48 rfl (by first | assumption | exact xup_self | exact (xup_ne (by assumption)).trans (by assumption) | exact (xup_ne (Ne.symm (by assumption))).trans (by assumption) | exact (xup_ne (by assumption)).trans xup_self | exact (xup_ne (Ne.symm (by assumption))).trans xup_self) rfl (Or.inl q_772) v_AL_remove e_AL_remove h_AL_remove rfl ⟨Nat.le_of_ble_eq_true rfl, Nat.le_of_ble_eq_true rfl, Nat.le_of_ble_eq_true rfl⟩ (by omega) (by omega) (fun v9 X3 hP => ?_) (fun _ _ h => absurd h.1 (by simp))
    obtain ⟨e1, hL3, hf3⟩ := hP
    cases e1
    refine xr_pop C d_KM_remove_48 49 rfl rfl ?_
    refine xr_vret C d_KM_remove_49 (by omega) (by omega) ⟨rfl, ?_⟩
    rw [hrk]
    have hmpS : mp ∉ [la, b] := by
      simp only [List.mem_cons, List.not_mem_nil, or_false, not_or]
      exact ⟨xne hmp1 hl1 (by intro h; cases h), xne hmp1 hbb1 (by intro h; cases h)⟩
    have hfA : xFr [mp, la, b] X1 X3 := (xFr_up hmp1 (fun z => z) (by simp)).trans (hf3.mono (fun q hq => List.mem_cons_of_mem _ hq))
    have hR3 := hR1.keepM hM1 hfA
    refine ⟨I, b, cap, _, br1, imX.rf, hI2.keepL hL2 hf3, ⟨hf3.use xup_self hmpS, hL3, hE.erase hc.1, ?_, ?_, ?_⟩, hR3, hb1, (hf1.mono ?_).trans (hfA.mono ?_), Or.inl rfl, hn1, Nat.le_refl _⟩
    · rw [List.length_eraseIdx_of_lt hc.1]
      have := hok.1
      omega
    · show uns (es.eraseIdx (fnb es key)) ≤ 700
      have := hok.2.1
      omega
    · intro e he
      exact hok.2.2 e (List.mem_of_mem_eraseIdx he)
    · intro q hq
      simp only [List.mem_cons, List.not_mem_nil, or_false] at hq ⊢
      exact Or.inr (Or.inr (Or.inr hq))
    · intro q hq
      simp only [List.mem_cons, List.not_mem_nil, or_false] at hq ⊢
      rcases hq with e | e | e
      · exact Or.inl e
      · exact Or.inr (Or.inl e)
      · exact Or.inr (Or.inr (Or.inl e))
  · have e0 : ixK es key = -1 := by unfold ixK; rw [if_neg hc]
    refine xG.eqL (show _ = [some (.ref mp), some (.ref kq), some (.ref r), some (.int (-1))] by rw [e0]; rfl) ?_
    have hrk : remK es key = (es, tvK es key) := by unfold remK tvK; rw [if_neg hc, if_neg hc]
    refine xr_iload_n C d_KM_remove_12 13 rfl rfl ?_
    refine xr_iconst (v := (-1)) C d_KM_remove_13 14 rfl (by decide) ?_
    refine xr_icmp_eq C d_KM_remove_14 17 49 rfl (by decide) (fun _ => ?_) (fun h => absurd rfl h)
    refine xr_vret C d_KM_remove_49 (by omega) (by omega) ⟨rfl, ?_⟩
    rw [hrk]
    exact hS.q hM0 hR
set_option maxRecDepth 100000 in
set_option maxHeartbeats 4000000 in
theorem c_KM_init {l : Launch} {D : va_G} {H0 : Heap} {X : xH} {mp : Nat} {w0 w1 : Value} (hm : X mp = some (.inr (2, [w0, w1]))) : xMet l D H0 y_KM_init b_KM_init 1 none [] 3 1 3 [.ref mp] X (fun o X' => o = .inl none ∧ ∃ la : Nat, X la = none ∧ X' = xup (xup X la (.inr (7, [.int 0, .ref (D.2 200 1), .int 0]))) mp (.inr (2, [.ref la, .int 0]))) := by
  refine ⟨[some (.ref mp)], rfl, Nat.le_of_ble_eq_true rfl, fun E hD hH hl _ C => ?_⟩
  subst hD
  subst hH
  subst hl
  refine xr_aload_n C d_KM_init_0 1 rfl rfl ?_
  refine xr_objInit C d_KM_init_1 4 rfl q_74 w_oi w_oc (Nat.le_of_ble_eq_true rfl) ?_
  refine xr_aload_n C d_KM_init_4 5 rfl rfl ?_
  refine xr_new (fs := [.int 0, .null, .int 0]) C K_AL d_KM_init_5 8 rfl q_75 q_44 q_5 (by intro j hj; match j, hj with | 0, _ => rfl | 1, _ => rfl | 2, _ => rfl) (by omega) (by omega) (fun q9 hq9 => ?_)
  refine xr_dup C d_KM_init_8 9 rfl rfl ?_
  refine xr_callI C (c_AL_init xup_self) kc_AL_init d_KM_init_9 12 rfl (Or.inl q_76) v_AL_init rfl h_AL_init rfl ⟨Nat.le_of_ble_eq_true rfl, Nat.le_of_ble_eq_true rfl, Nat.le_of_ble_eq_true rfl⟩ (by omega) (by omega) (fun v9 X' hP => ?_) (fun _ _ h => absurd h.1 (by simp))
  obtain ⟨h1, rfl⟩ := hP
  cases h1
  refine xG.eqX xup_up ?_
  refine xr_putF C K_KM 0 d_KM_init_12 15 rfl q_77 (Or.inl rfl) rfl rfl rfl rfl rfl rfl (xup_fresh hm hq9) rfl rfl ?_
  refine xr_aload_n C d_KM_init_15 16 rfl rfl ?_
  refine xr_iconst (v := 0) C d_KM_init_16 17 rfl (by decide) ?_
  refine xr_put C K_KM 1 d_KM_init_17 20 rfl q_80 (Or.inl rfl) rfl rfl rfl rfl (by first | assumption | exact xup_self | exact (xup_ne (by assumption)).trans (by assumption) | exact (xup_ne (Ne.symm (by assumption))).trans (by assumption) | exact (xup_ne (by assumption)).trans xup_self | exact (xup_ne (Ne.symm (by assumption))).trans xup_self) rfl rfl ?_
  exact xr_vret C d_KM_init_20 (by omega) (by omega) ⟨rfl, q9, hq9, by simp only [xup_up]; rfl⟩
