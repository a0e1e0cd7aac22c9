/-! The model: the operations and their answers. -/
theorem tol_z {s z : MS} (h : z = setS s 18 0) : tol z [] := by
  subst h
  exact ⟨rfl, fun i hi => absurd hi (Nat.not_lt_zero _)⟩
abbrev Kall : List Nat := [8, 9, 10, 11, 12, 18, 19]
set_option maxRecDepth 100000 in
set_option maxHeartbeats 4000000 in
theorem c_Mo_doPut {l : Launch} {D : va_G} {H0 : Heap} {X0 : xH} {A : Nat → Nat} {s : MS} (hA : mInj A) {m f n : Nat} {es : List Es} {key ts : List Int32} (hm : m < 2) (hE : rE s m es) (hok : okM es) (hB : okB es) (hq : qS s key) (hqb : isbs key) (hq32 : key.length ≤ 32) (hT : rT s ts) (hf : f + n ≤ ts.length) (hn : n ≤ 100) (hT0 : tol s []) : xMet l D H0 y_Mo_doPut b_Mo_doPut 6 none [] 3 0 0 [.ref (A 0), .int (nI m), .int (nI f), .int (nI n)] (mX D X0 A s) (fun o X' => o = .inl none ∧ ∃ s', X' = mX D X0 A s' ∧ tol s' (putK es key (sl ts f (f + n))).2 ∧ mFr Kall s s' ∧ rE s' m (putK es key (sl ts f (f + n))).1 ∧ oth m s s') := by
  have hal := hok.1
  have hfl := fnb_le key es
  obtain ⟨j, hj⟩ : ∃ j, j = fnb es key := ⟨_, rfl⟩
  rw [← hj] at hfl
  refine ⟨[some (.ref (A 0)), some (.int (nI m)), some (.int (nI f)), some (.int (nI n)), none, none], rfl, Nat.le_of_ble_eq_true rfl, fun E hD hH hl _ C => ?_⟩
  subst hD
  subst hH
  subst hl
  have t47 : ∀ (y : MS) (a : List Int32) (b : Int32), mFr [18, 19] s y → tol y a → a.length ≤ 101 → (pOK es key (sl ts f (f + n)) → (putK es key (sl ts f (f + n))).2 = a) → (¬ pOK es key (sl ts f (f + n)) → (putK es key (sl ts f (f + n))).2 = [2]) → xG E (mX E.D X0 A y) 0 0 47 [some (.ref (A 0)), some (.int (nI m)), some (.int (nI f)), some (.int (nI n)), some (.int (nI j)), some (.int b)] [] := by
    intro y a b y1 y2 y3 y4 y5
    refine xr_aload_n C d_Mo_doPut_47 48 rfl rfl ?_
    refine xr_iload_n C d_Mo_doPut_48 49 rfl rfl ?_
    refine xr_iload_n C d_Mo_doPut_49 50 rfl rfl ?_
    refine xr_iload_n C d_Mo_doPut_50 51 rfl rfl ?_
    refine xr_callV C (c_Mo_put hA hm (hE.fr y1 (by decide)) hok hB (hq.fr y1 (by decide)) hqb hq32 (hT.fr y1 (by decide)) hf hn) k_Mo_put d_Mo_doPut_51 54 rfl (mX_o hA) rfl (Or.inl q_1096) v_Mo_put e_Mo_put h_Mo_put rfl ⟨Nat.le_of_ble_eq_true rfl, Nat.le_of_ble_eq_true rfl, Nat.le_of_ble_eq_true rfl⟩ (by omega) (by omega) (fun v9 X9 hP => ?_) (fun _ _ h => by obtain ⟨b, h, -⟩ := h; cases h)
    obtain ⟨c, h1, h2, h3, z, rfl, h4, h5, h6⟩ := hP
    cases h1
    have hoy : oth m s y := oth.fr y1 (by decide)
    have hfz : mFr Kall s z := (y1.mono (by decide)).trans (h4.mono (by decide))
    rcases h2 with e | e
    · subst e
      have hno : ¬ pOK es key (sl ts f (f + n)) := fun q => absurd (h3.mpr q) (by decide)
      refine xr_if_ne C d_Mo_doPut_54 57 67 rfl (by decide) (fun h => absurd rfl h) (fun _ => ?_)
      refine xr_aload_n C d_Mo_doPut_57 58 rfl rfl ?_
      refine xr_iconst (v := 0) C d_Mo_doPut_58 59 rfl (by decide) ?_
      refine xr_put C K_Mo 18 d_Mo_doPut_59 62 rfl q_958 (Or.inl rfl) rfl rfl rfl rfl (mX_o hA) rfl rfl ?_
      obtain ⟨z1, hz1⟩ : ∃ zz9, zz9 = setS z 18 (nI 0) := ⟨_, rfl⟩
      refine xG.eqX (show _ = mX E.D X0 A z1 from (mX_f18 (v := (nI 0)) hA).trans (by rw [hz1])) ?_
      refine xr_aload_n C d_Mo_doPut_62 63 rfl rfl ?_
      refine xr_iconst (v := 2) C d_Mo_doPut_63 64 rfl (by decide) ?_
      refine xr_callV C (c_Mo_tell hA (b := 2) (tol_z hz1) (by rw [List.length_nil]; omega) (by decide)) k_Mo_tell d_Mo_doPut_64 67 rfl (mX_o hA) rfl (Or.inl q_1064) v_Mo_tell e_Mo_tell h_Mo_tell rfl ⟨Nat.le_of_ble_eq_true rfl, Nat.le_of_ble_eq_true rfl, Nat.le_of_ble_eq_true rfl⟩ (by omega) (by omega) (fun v9 X9 hP => ?_) (fun _ _ h => absurd h.1 (by simp))
      obtain ⟨h1, z2, rfl, g1, g2⟩ := hP
      cases h1
      have hz12 : mFr [18, 19] z z2 := (show mFr [18, 19] z z1 by rw [hz1]; exact mFr_S (by decide)).trans g2
      refine xr_vret C d_Mo_doPut_67 (by omega) (by omega) ⟨rfl, z2, rfl, ?_, hfz.trans (hz12.mono (by decide)), h5.fr hz12 (by decide), (hoy.trans h6).trans (oth.fr hz12 (by decide))⟩
      rw [y5 hno]
      exact g1
    · subst e
      have hyes := h3.mp rfl
      refine xr_if_ne C d_Mo_doPut_54 57 67 rfl (by decide) (fun _ => ?_) (fun h => absurd h (by decide))
      refine xr_vret C d_Mo_doPut_67 (by omega) (by omega) ⟨rfl, z, rfl, ?_, hfz, h5, hoy.trans h6⟩
      rw [y4 hyes]
      exact y2.fr h4 (by decide)
  refine xr_aload_n C d_Mo_doPut_0 1 rfl rfl ?_
  refine xr_iload_n C d_Mo_doPut_1 2 rfl rfl ?_
  refine xr_callV C (c_Mo_below hA hm hE hok hq hq32) k_Mo_below d_Mo_doPut_2 5 rfl (mX_o hA) rfl (Or.inl q_1076) v_Mo_below e_Mo_below h_Mo_below rfl ⟨Nat.le_of_ble_eq_true rfl, Nat.le_of_ble_eq_true rfl, Nat.le_of_ble_eq_true rfl⟩ (by omega) (by omega) (fun v9 X9 hP => ?_) (fun _ _ h => absurd h.1 (by simp))
  obtain ⟨h1, rfl⟩ := hP
  cases h1
  rw [← hj]
  refine xr_istore C d_Mo_doPut_5 7 rfl rfl rfl ?_
  refine xr_aload_n C d_Mo_doPut_7 8 rfl rfl ?_
  refine xr_iload_n C d_Mo_doPut_8 9 rfl rfl ?_
  refine xr_iload C d_Mo_doPut_9 11 rfl rfl ?_
  refine xr_callV C (c_Mo_isAt hA hm hE hok hq hq32 (j := j) (by omega) hB hqb) k_Mo_isAt d_Mo_doPut_11 14 rfl (mX_o hA) rfl (Or.inl q_1084) v_Mo_isAt e_Mo_isAt h_Mo_isAt rfl ⟨Nat.le_of_ble_eq_true rfl, Nat.le_of_ble_eq_true rfl, Nat.le_of_ble_eq_true rfl⟩ (by omega) (by omega) (fun v9 X9 hP => ?_) (fun _ _ h => absurd h.1 (by simp))
  obtain ⟨h1, rfl⟩ := hP
  cases h1
  by_cases hc : j < es.length ∧ (eD es j).1 = key
  · have hh : hasK es key := by unfold hasK; rw [← hj]; exact hc
    have hpk := pOK_dec es key (sl ts f (f + n)) hh
    rw [← hj] at hpk
    have he2 := (hok.2.2 _ (eD_mem hc.1)).2.2
    refine xr_toi (if_pos hc) ?_
    refine xr_istore C d_Mo_doPut_14 16 rfl rfl rfl ?_
    refine xr_aload_n C d_Mo_doPut_16 17 rfl rfl ?_
    refine xr_iload C d_Mo_doPut_17 19 rfl rfl ?_
    refine xr_if_eq C d_Mo_doPut_19 22 26 rfl (by decide) (fun h => absurd h (by decide)) (fun _ => ?_)
    refine xr_iconst (v := 1) C d_Mo_doPut_22 23 rfl (by decide) ?_
    refine xr_goto C d_Mo_doPut_23 27 (by decide) ?_
    refine xr_callV C (c_Mo_tell hA (b := 1) hT0 (by rw [List.length_nil]; omega) (by decide)) k_Mo_tell d_Mo_doPut_27 30 rfl (mX_o hA) rfl (Or.inl q_1064) v_Mo_tell e_Mo_tell h_Mo_tell rfl ⟨Nat.le_of_ble_eq_true rfl, Nat.le_of_ble_eq_true rfl, Nat.le_of_ble_eq_true rfl⟩ (by omega) (by omega) (fun v9 X9 hP => ?_) (fun _ _ h => absurd h.1 (by simp))
    obtain ⟨h1, z1, rfl, g1, g2⟩ := hP
    cases h1
    refine xr_iload C d_Mo_doPut_30 32 rfl rfl ?_
    refine xr_if_eq C d_Mo_doPut_32 35 47 rfl (by decide) (fun h => absurd h (by decide)) (fun _ => ?_)
    refine xr_aload_n C d_Mo_doPut_35 36 rfl rfl ?_
    refine xr_sipush (v := 128) C d_Mo_doPut_36 39 rfl (by decide) ?_
    refine xr_iload_n C d_Mo_doPut_39 40 rfl rfl ?_
    refine xr_imul C d_Mo_doPut_40 41 rfl ?_
    refine xr_toi (show _ = nI (128 * m) from pk_mul 128 m) ?_
    refine xr_iload C d_Mo_doPut_41 43 rfl rfl ?_
    refine xr_iadd C d_Mo_doPut_43 44 rfl ?_
    refine xr_toi (show _ = nI ((128 * m) + j) from nI_add (128 * m) j) ?_
    refine xr_callV C (c_Mo_tellValue hA (by omega) ((hE.2 j hc.1).2.fr g2 (by decide) (by decide)) g1 (by simp only [List.length_append, List.length_nil, List.length_singleton]; omega) (by omega)) k_Mo_tellValue d_Mo_doPut_44 47 rfl (mX_o hA) rfl (Or.inl q_1088) v_Mo_tellValue e_Mo_tellValue h_Mo_tellValue rfl ⟨Nat.le_of_ble_eq_true rfl, Nat.le_of_ble_eq_true rfl, Nat.le_of_ble_eq_true rfl⟩ (by omega) (by omega) (fun v9 X9 hP => ?_) (fun _ _ h => absurd h.1 (by simp))
    obtain ⟨h1, z2, rfl, g3, g4⟩ := hP
    cases h1
    refine t47 z2 _ _ (g2.trans g4) g3 (by simp only [List.length_append, List.length_nil, List.length_singleton]; omega) (fun h => ?_) (fun h => ?_)
    · have hy : uns (es.set j ((eD es j).1, (sl ts f (f + n)))) ≤ 700 := by
        rcases h with h | h
        · rw [← hj] at h
          exact h.2
        · exact absurd hh h.1
      rw [hpk, if_pos hy]
      rfl
    · have hy : ¬ uns (es.set j ((eD es j).1, (sl ts f (f + n)))) ≤ 700 := fun q => h (Or.inl ⟨hh, by rw [← hj]; exact q⟩)
      rw [hpk, if_neg hy]
      rfl
  · have hh : ¬ hasK es key := by unfold hasK; rw [← hj]; exact hc
    have hpk : putK es key (sl ts f (f + n)) = if es.length < 128 ∧ uns es + un (key, (sl ts f (f + n))) ≤ 700 then (insAt es j (key, (sl ts f (f + n))), num 0 1) else (es, num 2 1) := by
      rw [hj]
      exact if_neg hh
    refine xr_toi (if_neg hc) ?_
    refine xr_istore C d_Mo_doPut_14 16 rfl rfl rfl ?_
    refine xr_aload_n C d_Mo_doPut_16 17 rfl rfl ?_
    refine xr_iload C d_Mo_doPut_17 19 rfl rfl ?_
    refine xr_if_eq C d_Mo_doPut_19 22 26 rfl (by decide) (fun _ => ?_) (fun h => absurd rfl h)
    refine xr_iconst (v := 0) C d_Mo_doPut_26 27 rfl (by decide) ?_
    refine xr_callV C (c_Mo_tell hA (b := 0) hT0 (by rw [List.length_nil]; omega) (by decide)) k_Mo_tell d_Mo_doPut_27 30 rfl (mX_o hA) rfl (Or.inl q_1064) v_Mo_tell e_Mo_tell h_Mo_tell rfl ⟨Nat.le_of_ble_eq_true rfl, Nat.le_of_ble_eq_true rfl, Nat.le_of_ble_eq_true rfl⟩ (by omega) (by omega) (fun v9 X9 hP => ?_) (fun _ _ h => absurd h.1 (by simp))
    obtain ⟨h1, z1, rfl, g1, g2⟩ := hP
    cases h1
    refine xr_iload C d_Mo_doPut_30 32 rfl rfl ?_
    refine xr_if_eq C d_Mo_doPut_32 35 47 rfl (by decide) (fun _ => ?_) (fun h => absurd rfl h)
    refine t47 z1 _ _ g2 g1 (by simp only [List.length_append, List.length_nil, List.length_singleton]; omega) (fun h => ?_) (fun h => ?_)
    · have hy : es.length < 128 ∧ uns es + un (key, (sl ts f (f + n))) ≤ 700 := by
        rcases h with h | h
        · exact absurd h.1 hh
        · exact h.2
      rw [hpk, if_pos hy]
      rfl
    · rw [hpk, if_neg (fun q => h (Or.inr ⟨hh, q⟩))]
      rfl
set_option maxRecDepth 100000 in
set_option maxHeartbeats 4000000 in
theorem c_Mo_doSwap {l : Launch} {D : va_G} {H0 : Heap} {X0 : xH} {A : Nat → Nat} {s : MS} (hA : mInj A) {m f x n : Nat} {es : List Es} {key ts : List Int32} (hm : m < 2) (hE : rE s m es) (hok : okM es) (hB : okB es) (hq : qS s key) (hqb : isbs key) (hq32 : key.length ≤ 32) (hT : rT s ts) (htb : isbs ts) (hf : f + x + n ≤ ts.length) (hx : x ≤ 100) (hn : n ≤ 100) (hT0 : tol s []) : xMet l D H0 y_Mo_doSwap b_Mo_doSwap 9 none [] 3 0 0 [.ref (A 0), .int (nI m), .int (nI f), .int (nI x), .int (nI n)] (mX D X0 A s) (fun o X' => o = .inl none ∧ ∃ s', X' = mX D X0 A s' ∧ tol s' (swapK es key (sl ts f (f + x)) (sl ts (f + x) (f + x + n))).2 ∧ mFr Kall s s' ∧ rE s' m (swapK es key (sl ts f (f + x)) (sl ts (f + x) (f + x + n))).1 ∧ oth m s s') := by
  have hal := hok.1
  have h300 := hT.1
  have hfl := fnb_le key es
  have hxl : (sl ts f (f + x)).length = x := by rw [sl_len (by omega)]; omega
  obtain ⟨j, hj⟩ : ∃ j, j = fnb es key := ⟨_, rfl⟩
  rw [← hj] at hfl
  refine ⟨[some (.ref (A 0)), some (.int (nI m)), some (.int (nI f)), some (.int (nI x)), some (.int (nI n)), none, none, none, none], rfl, Nat.le_of_ble_eq_true rfl, fun E hD hH hl _ C => ?_⟩
  subst hD
  subst hH
  subst hl
  refine xr_aload_n C d_Mo_doSwap_0 1 rfl rfl ?_
  refine xr_iload_n C d_Mo_doSwap_1 2 rfl rfl ?_
  refine xr_callV C (c_Mo_below hA hm hE hok hq hq32) k_Mo_below d_Mo_doSwap_2 5 rfl (mX_o hA) rfl (Or.inl q_1076) v_Mo_below e_Mo_below h_Mo_below rfl ⟨Nat.le_of_ble_eq_true rfl, Nat.le_of_ble_eq_true rfl, Nat.le_of_ble_eq_true rfl⟩ (by omega) (by omega) (fun v9 X9 hP => ?_) (fun _ _ h => absurd h.1 (by simp))
  obtain ⟨h1, rfl⟩ := hP
  cases h1
  rw [← hj]
  refine xr_istore C d_Mo_doSwap_5 7 rfl rfl rfl ?_
  refine xr_sipush (v := 128) C d_Mo_doSwap_7 10 rfl (by decide) ?_
  refine xr_iload_n C d_Mo_doSwap_10 11 rfl rfl ?_
  refine xr_imul C d_Mo_doSwap_11 12 rfl ?_
  refine xr_toi (show _ = nI (128 * m) from pk_mul 128 m) ?_
  refine xr_iload C d_Mo_doSwap_12 14 rfl rfl ?_
  refine xr_iadd C d_Mo_doSwap_14 15 rfl ?_
  refine xr_toi (show _ = nI ((128 * m) + j) from nI_add (128 * m) j) ?_
  refine xr_istore C d_Mo_doSwap_15 17 rfl rfl rfl ?_
  refine xr_aload_n C d_Mo_doSwap_17 18 rfl rfl ?_
  refine xr_iload_n C d_Mo_doSwap_18 19 rfl rfl ?_
  refine xr_iload C d_Mo_doSwap_19 21 rfl rfl ?_
  refine xr_callV C (c_Mo_isAt hA hm hE hok hq hq32 (j := j) (by omega) hB hqb) k_Mo_isAt d_Mo_doSwap_21 24 rfl (mX_o hA) rfl (Or.inl q_1084) v_Mo_isAt e_Mo_isAt h_Mo_isAt rfl ⟨Nat.le_of_ble_eq_true rfl, Nat.le_of_ble_eq_true rfl, Nat.le_of_ble_eq_true rfl⟩ (by omega) (by omega) (fun v9 X9 hP => ?_) (fun _ _ h => absurd h.1 (by simp))
  obtain ⟨h1, rfl⟩ := hP
  cases h1
  by_cases hc : j < es.length ∧ (eD es j).1 = key
  rotate_left
  · have hh : ¬ hasK es key := by unfold hasK; rw [← hj]; exact hc
    have hpk : swapK es key (sl ts f (f + x)) (sl ts (f + x) (f + x + n)) = (es, num 3 1) := if_neg hh
    refine xr_toi (if_neg hc) ?_
    refine xr_if_ne C d_Mo_doSwap_24 27 33 rfl (by decide) (fun h => absurd rfl h) (fun _ => ?_)
    refine xr_aload_n C d_Mo_doSwap_27 28 rfl rfl ?_
    refine xr_iconst (v := 3) C d_Mo_doSwap_28 29 rfl (by decide) ?_
    refine xr_callV C (c_Mo_tell hA (b := 3) hT0 (by rw [List.length_nil]; omega) (by decide)) k_Mo_tell d_Mo_doSwap_29 32 rfl (mX_o hA) rfl (Or.inl q_1064) v_Mo_tell e_Mo_tell h_Mo_tell rfl ⟨Nat.le_of_ble_eq_true rfl, Nat.le_of_ble_eq_true rfl, Nat.le_of_ble_eq_true rfl⟩ (by omega) (by omega) (fun v9 X9 hP => ?_) (fun _ _ h => absurd h.1 (by simp))
    obtain ⟨h1, z1, rfl, g1, g2⟩ := hP
    cases h1
    refine xr_vret C d_Mo_doSwap_32 (by omega) (by omega) ⟨rfl, z1, rfl, ?_, g2.mono (by decide), ?_, oth.fr g2 (by decide)⟩
    · rw [hpk]
      exact g1
    · rw [hpk]
      exact hE.fr g2 (by decide)
  have hh : hasK es key := by unfold hasK; rw [← hj]; exact hc
  have hpk : swapK es key (sl ts f (f + x)) (sl ts (f + x) (f + x + n)) = if (eD es j).2 = (sl ts f (f + x)) then (if uns (es.set j ((eD es j).1, (sl ts (f + x) (f + x + n)))) ≤ 700 then (es.set j ((eD es j).1, (sl ts (f + x) (f + x + n))), num 1 1) else (es, num 2 1)) else (es, num 0 1 ++ (eD es j).2) := by
    rw [hj]
    exact if_pos hh
  have hput := pOK_dec es key (sl ts (f + x) (f + x + n)) hh
  rw [← hj] at hput
  have he2 := (hok.2.2 _ (eD_mem hc.1)).2.2
  have hbv := (hB _ (eD_mem hc.1)).2
  have hsl := hE.2 j hc.1
  refine xr_toi (if_pos hc) ?_
  have t98 : ∀ (b : Int32) (k : Option Value), (b = 0 ∨ b = 1) → (b = 1 ↔ (eD es j).2 = (sl ts f (f + x))) → xG E (mX E.D X0 A s) 0 0 98 [some (.ref (A 0)), some (.int (nI m)), some (.int (nI f)), some (.int (nI x)), some (.int (nI n)), some (.int (nI j)), some (.int (nI (128 * m + j))), some (.int b), k] [] := by
    intro b k hb hb2
    rcases hb with e | e
    · subst e
      have hne : ¬ (eD es j).2 = (sl ts f (f + x)) := fun q => absurd (hb2.mpr q) (by decide)
      refine xr_iload C d_Mo_doSwap_98 100 rfl rfl ?_
      refine xr_if_ne C d_Mo_doSwap_100 103 117 rfl (by decide) (fun h => absurd rfl h) (fun _ => ?_)
      refine xr_aload_n C d_Mo_doSwap_103 104 rfl rfl ?_
      refine xr_iconst (v := 0) C d_Mo_doSwap_104 105 rfl (by decide) ?_
      refine xr_callV C (c_Mo_tell hA (b := 0) hT0 (by rw [List.length_nil]; omega) (by decide)) k_Mo_tell d_Mo_doSwap_105 108 rfl (mX_o hA) rfl (Or.inl q_1064) v_Mo_tell e_Mo_tell h_Mo_tell rfl ⟨Nat.le_of_ble_eq_true rfl, Nat.le_of_ble_eq_true rfl, Nat.le_of_ble_eq_true rfl⟩ (by omega) (by omega) (fun v9 X9 hP => ?_) (fun _ _ h => absurd h.1 (by simp))
      obtain ⟨h1, z1, rfl, g1, g2⟩ := hP
      cases h1
      refine xr_aload_n C d_Mo_doSwap_108 109 rfl rfl ?_
      refine xr_iload C d_Mo_doSwap_109 111 rfl rfl ?_
      refine xr_callV C (c_Mo_tellValue hA (by omega) (hsl.2.fr g2 (by decide) (by decide)) g1 (by simp only [List.length_append, List.length_nil, List.length_singleton]; omega) (by omega)) k_Mo_tellValue d_Mo_doSwap_111 114 rfl (mX_o hA) rfl (Or.inl q_1088) v_Mo_tellValue e_Mo_tellValue h_Mo_tellValue rfl ⟨Nat.le_of_ble_eq_true rfl, Nat.le_of_ble_eq_true rfl, Nat.le_of_ble_eq_true rfl⟩ (by omega) (by omega) (fun v9 X9 hP => ?_) (fun _ _ h => absurd h.1 (by simp))
      obtain ⟨h1, z2, rfl, g3, g4⟩ := hP
      cases h1
      refine xr_goto C d_Mo_doSwap_114 139 (by decide) ?_
      refine xr_vret C d_Mo_doSwap_139 (by omega) (by omega) ⟨rfl, z2, rfl, ?_, (g2.trans g4).mono (by decide), ?_, oth.fr (g2.trans g4) (by decide)⟩
      · rw [hpk, if_neg hne]
        exact g3
      · rw [hpk, if_neg hne]
        exact hE.fr (g2.trans g4) (by decide)
    · subst e
      have hye := hb2.mp rfl
      refine xr_iload C d_Mo_doSwap_98 100 rfl rfl ?_
      refine xr_if_ne C d_Mo_doSwap_100 103 117 rfl (by decide) (fun _ => ?_) (fun h => absurd h (by decide))
      refine xr_aload_n C d_Mo_doSwap_117 118 rfl rfl ?_
      refine xr_aload_n C d_Mo_doSwap_118 119 rfl rfl ?_
      refine xr_iload_n C d_Mo_doSwap_119 120 rfl rfl ?_
      refine xr_iload_n C d_Mo_doSwap_120 121 rfl rfl ?_
      refine xr_iload_n C d_Mo_doSwap_121 122 rfl rfl ?_
      refine xr_iadd C d_Mo_doSwap_122 123 rfl ?_
      refine xr_toi (show _ = nI (f + x) from nI_add f x) ?_
      refine xr_iload C d_Mo_doSwap_123 125 rfl rfl ?_
      refine xr_callV C (c_Mo_put hA hm hE hok hB hq hqb hq32 hT hf hn) k_Mo_put d_Mo_doSwap_125 128 rfl (mX_o hA) rfl (Or.inl q_1096) v_Mo_put e_Mo_put h_Mo_put rfl ⟨Nat.le_of_ble_eq_true rfl, Nat.le_of_ble_eq_true rfl, Nat.le_of_ble_eq_true rfl⟩ (by omega) (by omega) (fun v9 X9 hP => ?_) (fun _ _ h => by obtain ⟨b, h, -⟩ := h; cases h)
      obtain ⟨c, h1, h2, h3, z, rfl, h4, h5, h6⟩ := hP
      cases h1
      have hT1 : tol z [] := hT0.fr h4 (by decide)
      rcases h2 with e | e
      · subst e
        have hno : ¬ uns (es.set j ((eD es j).1, (sl ts (f + x) (f + x + n)))) ≤ 700 := fun q => absurd (h3.mpr (Or.inl ⟨hh, by rw [← hj]; exact q⟩)) (by decide)
        refine xr_if_eq C d_Mo_doSwap_128 131 135 rfl (by decide) (fun _ => ?_) (fun h => absurd rfl h)
        refine xr_iconst (v := 2) C d_Mo_doSwap_135 136 rfl (by decide) ?_
        refine xr_callV C (c_Mo_tell hA (b := 2) hT1 (by rw [List.length_nil]; omega) (by decide)) k_Mo_tell d_Mo_doSwap_136 139 rfl (mX_o hA) rfl (Or.inl q_1064) v_Mo_tell e_Mo_tell h_Mo_tell rfl ⟨Nat.le_of_ble_eq_true rfl, Nat.le_of_ble_eq_true rfl, Nat.le_of_ble_eq_true rfl⟩ (by omega) (by omega) (fun v9 X9 hP => ?_) (fun _ _ h => absurd h.1 (by simp))
        obtain ⟨h1, z2, rfl, g1, g2⟩ := hP
        cases h1
        refine xr_vret C d_Mo_doSwap_139 (by omega) (by omega) ⟨rfl, z2, rfl, ?_, (h4.mono (by decide)).trans (g2.mono (by decide)), ?_, h6.trans (oth.fr g2 (by decide))⟩
        · rw [hpk, if_pos hye, if_neg hno]
          exact g1
        · rw [hput, if_neg hno] at h5
          rw [hpk, if_pos hye, if_neg hno]
          exact h5.fr g2 (by decide)
      · subst e
        have hyes : uns (es.set j ((eD es j).1, (sl ts (f + x) (f + x + n)))) ≤ 700 := by
          rcases h3.mp rfl with h | h
          · rw [← hj] at h
            exact h.2
          · exact absurd hh h.1
        refine xr_if_eq C d_Mo_doSwap_128 131 135 rfl (by decide) (fun h => absurd h (by decide)) (fun _ => ?_)
        refine xr_iconst (v := 1) C d_Mo_doSwap_131 132 rfl (by decide) ?_
        refine xr_goto C d_Mo_doSwap_132 136 (by decide) ?_
        refine xr_callV C (c_Mo_tell hA (b := 1) hT1 (by rw [List.length_nil]; omega) (by decide)) k_Mo_tell d_Mo_doSwap_136 139 rfl (mX_o hA) rfl (Or.inl q_1064) v_Mo_tell e_Mo_tell h_Mo_tell rfl ⟨Nat.le_of_ble_eq_true rfl, Nat.le_of_ble_eq_true rfl, Nat.le_of_ble_eq_true rfl⟩ (by omega) (by omega) (fun v9 X9 hP => ?_) (fun _ _ h => absurd h.1 (by simp))
        obtain ⟨h1, z2, rfl, g1, g2⟩ := hP
        cases h1
        refine xr_vret C d_Mo_doSwap_139 (by omega) (by omega) ⟨rfl, z2, rfl, ?_, (h4.mono (by decide)).trans (g2.mono (by decide)), ?_, h6.trans (oth.fr g2 (by decide))⟩
        · rw [hpk, if_pos hye, if_pos hyes]
          exact g1
        · rw [hput, if_pos hyes] at h5
          rw [hpk, if_pos hye, if_pos hyes]
          exact h5.fr g2 (by decide)
  have loop : ∀ (r i : Nat) (b : Int32), i + r = x → (b = 0 ∨ b = 1) → (b = 1 ↔ (eD es j).2.length = x ∧ ∀ q, q < i → pad (eD es j).2 q = pad (sl ts f (f + x)) q) → xG E (mX E.D X0 A s) 0 0 54 [some (.ref (A 0)), some (.int (nI m)), some (.int (nI f)), some (.int (nI x)), some (.int (nI n)), some (.int (nI j)), some (.int (nI (128 * m + j))), some (.int b), some (.int (nI i))] [] := by
    intro r
    induction r with
    | zero =>
      intro i b hi hb hb2
      have ei : i = x := by omega
      subst ei
      refine xr_iload C d_Mo_doSwap_54 56 rfl rfl ?_
      refine xr_iload_n C d_Mo_doSwap_56 57 rfl rfl ?_
      refine xr_icmp_ge C d_Mo_doSwap_57 60 98 rfl (by decide) (fun _ => ?_) (fun h => absurd (nI_le (Nat.le_refl _) (by omega)) h)
      refine t98 b _ hb (hb2.trans ⟨fun h => pad_eq hbv (fun q hq => ?_) (by rw [hxl]; exact h.1) (fun q hq => h.2 q (by omega)), fun h => ⟨by rw [h, hxl], fun q _ => by rw [h]⟩⟩)
      rw [hxl] at hq
      rw [sl_at (by omega)]
      exact htb _ (by omega)
    | succ r ih =>
      intro i b hi hb hb2
      refine xr_iload C d_Mo_doSwap_54 56 rfl rfl ?_
      refine xr_iload_n C d_Mo_doSwap_56 57 rfl rfl ?_
      refine xr_icmp_ge C d_Mo_doSwap_57 60 98 rfl (by decide) (fun h => absurd h (nI_ge (show i < x by omega) (by omega))) (fun _ => ?_)
      refine xr_iload C d_Mo_doSwap_60 62 rfl rfl ?_
      refine xr_if_eq C d_Mo_doSwap_62 65 98 rfl (by decide) (fun h62 => ?_) (fun h62 => ?_)
      · refine t98 b _ hb ⟨fun h => absurd (h62.symm.trans h) (by decide), fun h => ?_⟩
        have := hb2.mpr ⟨by rw [h, hxl], fun q _ => by rw [h]⟩
        exact this
      have hb1 : b = 1 := hb.resolve_left h62
      have hall := hb2.mp hb1
      have t90 : ∀ c : Int32, (c = 0 ∨ c = 1) → (c = 1 ↔ pad (eD es j).2 i = pad (sl ts f (f + x)) i) → xG E (mX E.D X0 A s) 0 0 90 [some (.ref (A 0)), some (.int (nI m)), some (.int (nI f)), some (.int (nI x)), some (.int (nI n)), some (.int (nI j)), some (.int (nI (128 * m + j))), some (.int b), some (.int (nI i))] [.int c] := by
        intro c hc1 hc2
        refine xr_istore C d_Mo_doSwap_90 92 rfl rfl rfl ?_
        refine xr_iinc (v := 1) C d_Mo_doSwap_92 95 rfl rfl rfl rfl (by decide) ?_
        refine xr_goto C d_Mo_doSwap_95 54 (by decide) ?_
        refine xG.eqL (show _ = [some (Value.ref (A 0)), some (Value.int (nI m)), some (Value.int (nI f)), some (Value.int (nI x)), some (Value.int (nI n)), some (Value.int (nI j)), some (Value.int (nI (128 * m + j))), some (Value.int c), some (Value.int (nI (i + 1)))] by rw [← nI_one]; rfl) ?_
        refine ih (i + 1) c (by omega) hc1 (hc2.trans ⟨fun h => ⟨hall.1, fun q hq => ?_⟩, fun h => h.2 i (by omega)⟩)
        by_cases e : q = i
        · rw [e]
          exact h
        · exact hall.2 q (by omega)
      have hpx : pad (sl ts f (f + x)) i = ub (ts.getD (f + i) 0) := by
        rw [pad_in (by rw [hxl]; omega), sl_at (by omega)]
      have hlt1 : pad (eD es j).2 i < 256 := by rw [pad_in (by omega)]; exact ub_lt _
      have hlt2 : pad (sl ts f (f + x)) i < 256 := by rw [hpx]; exact ub_lt _
      refine xr_aload_n C d_Mo_doSwap_65 66 rfl rfl ?_
      refine xr_iload C d_Mo_doSwap_66 68 rfl rfl ?_
      refine xr_iload C d_Mo_doSwap_68 70 rfl rfl ?_
      refine xr_callV C (c_Mo_valueByte hA (by omega) hsl.2 (show i < 104 by omega)) k_Mo_valueByte d_Mo_doSwap_70 73 rfl (mX_o hA) rfl (Or.inl q_1092) v_Mo_valueByte e_Mo_valueByte h_Mo_valueByte rfl ⟨Nat.le_of_ble_eq_true rfl, Nat.le_of_ble_eq_true rfl, Nat.le_of_ble_eq_true rfl⟩ (by omega) (by omega) (fun v9 X9 hP => ?_) (fun _ _ h => absurd h.1 (by simp))
      obtain ⟨h1, rfl⟩ := hP
      cases h1
      refine xr_aload_n C d_Mo_doSwap_73 74 rfl rfl ?_
      refine xr_get C K_Mo 15 d_Mo_doSwap_74 77 rfl q_955 (Or.inl rfl) rfl (mX_o hA) rfl ?_
      refine xr_iload_n C d_Mo_doSwap_77 78 rfl rfl ?_
      refine xr_iload C d_Mo_doSwap_78 80 rfl rfl ?_
      refine xr_iadd C d_Mo_doSwap_80 81 rfl ?_
      refine xr_toi (show _ = nI (f + i) from nI_add f i) ?_
      refine xr_iald (j := (f + i)) C d_Mo_doSwap_81 82 rfl (mX_15 hA) rfl (by omega) (by omega) ?_
      refine xr_toi (show _ = nI (pad (sl ts f (f + x)) i) from (hT.2 (f + i) (by omega)).trans (by rw [u8_ub, hpx])) ?_
      refine xr_icmp_ne C d_Mo_doSwap_82 85 89 rfl (by decide) (fun h82 => ?_) (fun h82 => ?_)
      · refine xr_iconst (v := 0) C d_Mo_doSwap_89 90 rfl (by decide) ?_
        exact t90 0 (Or.inl rfl) ⟨fun h => absurd h (by decide), fun h => absurd (by rw [h]) h82⟩
      · refine xr_iconst (v := 1) C d_Mo_doSwap_85 86 rfl (by decide) ?_
        refine xr_goto C d_Mo_doSwap_86 90 (by decide) ?_
        exact t90 1 (Or.inr rfl) ⟨fun _ => (nI_eq (by omega) (by omega)).mp h82, fun _ => rfl⟩
  refine xr_if_ne C d_Mo_doSwap_24 27 33 rfl (by decide) (fun _ => ?_) (fun h => absurd h (by decide))
  refine xr_aload_n C d_Mo_doSwap_33 34 rfl rfl ?_
  refine xr_get C K_Mo 11 d_Mo_doSwap_34 37 rfl q_951 (Or.inl rfl) rfl (mX_o hA) rfl ?_
  refine xr_iload C d_Mo_doSwap_37 39 rfl rfl ?_
  refine xr_iald (j := (128 * m + j)) C d_Mo_doSwap_39 40 rfl (mX_11 hA) rfl (by omega) (by omega) ?_
  refine xr_toi (show _ = nI ((eD es j).2.length) from hsl.2.1) ?_
  refine xr_iload_n C d_Mo_doSwap_40 41 rfl rfl ?_
  refine xr_icmp_ne C d_Mo_doSwap_41 44 48 rfl (by decide) (fun h41 => ?_) (fun h41 => ?_)
  · refine xr_iconst (v := 0) C d_Mo_doSwap_48 49 rfl (by decide) ?_
    refine xr_istore C d_Mo_doSwap_49 51 rfl rfl rfl ?_
    refine xr_iconst (v := 0) C d_Mo_doSwap_51 52 rfl (by decide) ?_
    refine xr_istore C d_Mo_doSwap_52 54 rfl rfl rfl ?_
    exact loop x 0 0 (by omega) (Or.inl rfl) ⟨fun h => absurd h (by decide), fun h => absurd (by rw [h.1]) h41⟩
  · refine xr_iconst (v := 1) C d_Mo_doSwap_44 45 rfl (by decide) ?_
    refine xr_goto C d_Mo_doSwap_45 49 (by decide) ?_
    refine xr_istore C d_Mo_doSwap_49 51 rfl rfl rfl ?_
    refine xr_iconst (v := 0) C d_Mo_doSwap_51 52 rfl (by decide) ?_
    refine xr_istore C d_Mo_doSwap_52 54 rfl rfl rfl ?_
    exact loop x 0 1 (by omega) (Or.inr rfl) ⟨fun _ => ⟨(nI_eq (by omega) (by omega)).mp h41, fun q hq => absurd hq (Nat.not_lt_zero _)⟩, fun _ => rfl⟩
set_option maxRecDepth 100000 in
set_option maxHeartbeats 4000000 in
theorem c_Mo_doRemove {l : Launch} {D : va_G} {H0 : Heap} {X0 : xH} {A : Nat → Nat} {s : MS} (hA : mInj A) {m : Nat} {es : List Es} {key : List Int32} (hm : m < 2) (hE : rE s m es) (hok : okM es) (hB : okB es) (hq : qS s key) (hqb : isbs key) (hq32 : key.length ≤ 32) (hT0 : tol s []) : xMet l D H0 y_Mo_doRemove b_Mo_doRemove 5 none [] 2 0 0 [.ref (A 0), .int (nI m)] (mX D X0 A s) (fun o X' => o = .inl none ∧ ∃ s', X' = mX D X0 A s' ∧ tol s' (remK es key).2 ∧ mFr Kall s s' ∧ rE s' m (remK es key).1 ∧ oth m s s') := by
  have hal := hok.1
  have hfl := fnb_le key es
  obtain ⟨j, hj⟩ : ∃ j, j = fnb es key := ⟨_, rfl⟩
  rw [← hj] at hfl
  refine ⟨[some (.ref (A 0)), some (.int (nI m)), none, none, none], rfl, Nat.le_of_ble_eq_true rfl, fun E hD hH hl _ C => ?_⟩
  subst hD
  subst hH
  subst hl
  refine xr_aload_n C d_Mo_doRemove_0 1 rfl rfl ?_
  refine xr_iload_n C d_Mo_doRemove_1 2 rfl rfl ?_
  refine xr_callV C (c_Mo_below hA hm hE hok hq hq32) k_Mo_below d_Mo_doRemove_2 5 rfl (mX_o hA) rfl (Or.inl q_1076) v_Mo_below e_Mo_below h_Mo_below rfl ⟨Nat.le_of_ble_eq_true rfl, Nat.le_of_ble_eq_true rfl, Nat.le_of_ble_eq_true rfl⟩ (by omega) (by omega) (fun v9 X9 hP => ?_) (fun _ _ h => absurd h.1 (by simp))
  obtain ⟨h1, rfl⟩ := hP
  cases h1
  rw [← hj]
  refine xr_istore_n C d_Mo_doRemove_5 6 rfl rfl rfl ?_
  refine xr_aload_n C d_Mo_doRemove_6 7 rfl rfl ?_
  refine xr_iload_n C d_Mo_doRemove_7 8 rfl rfl ?_
  refine xr_iload_n C d_Mo_doRemove_8 9 rfl rfl ?_
  refine xr_callV C (c_Mo_isAt hA hm hE hok hq hq32 (j := j) (by omega) hB hqb) k_Mo_isAt d_Mo_doRemove_9 12 rfl (mX_o hA) rfl (Or.inl q_1084) v_Mo_isAt e_Mo_isAt h_Mo_isAt rfl ⟨Nat.le_of_ble_eq_true rfl, Nat.le_of_ble_eq_true rfl, Nat.le_of_ble_eq_true rfl⟩ (by omega) (by omega) (fun v9 X9 hP => ?_) (fun _ _ h => absurd h.1 (by simp))
  obtain ⟨h1, rfl⟩ := hP
  cases h1
  by_cases hc : j < es.length ∧ (eD es j).1 = key
  rotate_left
  · have hh : ¬ hasK es key := by unfold hasK; rw [← hj]; exact hc
    have hpk : remK es key = (es, num 0 1) := if_neg hh
    refine xr_toi (if_neg hc) ?_
    refine xr_istore_n C d_Mo_doRemove_12 13 rfl rfl rfl ?_
    refine xr_aload_n C d_Mo_doRemove_13 14 rfl rfl ?_
    refine xr_iload_n C d_Mo_doRemove_14 15 rfl rfl ?_
    refine xr_if_eq C d_Mo_doRemove_15 18 22 rfl (by decide) (fun _ => ?_) (fun h => absurd rfl h)
    refine xr_iconst (v := 0) C d_Mo_doRemove_22 23 rfl (by decide) ?_
    refine xr_callV C (c_Mo_tell hA (b := 0) hT0 (by rw [List.length_nil]; omega) (by decide)) k_Mo_tell d_Mo_doRemove_23 26 rfl (mX_o hA) rfl (Or.inl q_1064) v_Mo_tell e_Mo_tell h_Mo_tell rfl ⟨Nat.le_of_ble_eq_true rfl, Nat.le_of_ble_eq_true rfl, Nat.le_of_ble_eq_true rfl⟩ (by omega) (by omega) (fun v9 X9 hP => ?_) (fun _ _ h => absurd h.1 (by simp))
    obtain ⟨h1, z1, rfl, g1, g2⟩ := hP
    cases h1
    refine xr_iload_n C d_Mo_doRemove_26 27 rfl rfl ?_
    refine xr_if_ne C d_Mo_doRemove_27 30 31 rfl (by decide) (fun h => absurd rfl h) (fun _ => ?_)
    refine xr_vret C d_Mo_doRemove_30 (by omega) (by omega) ⟨rfl, z1, rfl, ?_, g2.mono (by decide), ?_, oth.fr g2 (by decide)⟩
    · rw [hpk]
      exact g1
    · rw [hpk]
      exact hE.fr g2 (by decide)
  have hh : hasK es key := by unfold hasK; rw [← hj]; exact hc
  have hpk : remK es key = (es.eraseIdx j, num 1 1 ++ (eD es j).2) := by
    rw [hj]
    exact if_pos hh
  have he2 := (hok.2.2 _ (eD_mem hc.1)).2.2
  have hsl := hE.2 j hc.1
  have hdel : (es.eraseIdx j).length = es.length - 1 := List.length_eraseIdx_of_lt hc.1
  refine xr_toi (if_pos hc) ?_
  refine xr_istore_n C d_Mo_doRemove_12 13 rfl rfl rfl ?_
  refine xr_aload_n C d_Mo_doRemove_13 14 rfl rfl ?_
  refine xr_iload_n C d_Mo_doRemove_14 15 rfl rfl ?_
  refine xr_if_eq C d_Mo_doRemove_15 18 22 rfl (by decide) (fun h => absurd h (by decide)) (fun _ => ?_)
  refine xr_iconst (v := 1) C d_Mo_doRemove_18 19 rfl (by decide) ?_
  refine xr_goto C d_Mo_doRemove_19 23 (by decide) ?_
  refine xr_callV C (c_Mo_tell hA (b := 1) hT0 (by rw [List.length_nil]; omega) (by decide)) k_Mo_tell d_Mo_doRemove_23 26 rfl (mX_o hA) rfl (Or.inl q_1064) v_Mo_tell e_Mo_tell h_Mo_tell rfl ⟨Nat.le_of_ble_eq_true rfl, Nat.le_of_ble_eq_true rfl, Nat.le_of_ble_eq_true rfl⟩ (by omega) (by omega) (fun v9 X9 hP => ?_) (fun _ _ h => absurd h.1 (by simp))
  obtain ⟨h1, z1, rfl, g1, g2⟩ := hP
  cases h1
  refine xr_iload_n C d_Mo_doRemove_26 27 rfl rfl ?_
  refine xr_if_ne C d_Mo_doRemove_27 30 31 rfl (by decide) (fun _ => ?_) (fun h => absurd h (by decide))
  refine xr_aload_n C d_Mo_doRemove_31 32 rfl rfl ?_
  refine xr_sipush (v := 128) C d_Mo_doRemove_32 35 rfl (by decide) ?_
  refine xr_iload_n C d_Mo_doRemove_35 36 rfl rfl ?_
  refine xr_imul C d_Mo_doRemove_36 37 rfl ?_
  refine xr_toi (show _ = nI (128 * m) from pk_mul 128 m) ?_
  refine xr_iload_n C d_Mo_doRemove_37 38 rfl rfl ?_
  refine xr_iadd C d_Mo_doRemove_38 39 rfl ?_
  refine xr_toi (show _ = nI ((128 * m) + j) from nI_add (128 * m) j) ?_
  refine xr_callV C (c_Mo_tellValue hA (by omega) (hsl.2.fr g2 (by decide) (by decide)) g1 (by simp only [List.length_append, List.length_nil, List.length_singleton]; omega) (by omega)) k_Mo_tellValue d_Mo_doRemove_39 42 rfl (mX_o hA) rfl (Or.inl q_1088) v_Mo_tellValue e_Mo_tellValue h_Mo_tellValue rfl ⟨Nat.le_of_ble_eq_true rfl, Nat.le_of_ble_eq_true rfl, Nat.le_of_ble_eq_true rfl⟩ (by omega) (by omega) (fun v9 X9 hP => ?_) (fun _ _ h => absurd h.1 (by simp))
  obtain ⟨h1, z2, rfl, g3, g4⟩ := hP
  cases h1
  have g24 := g2.trans g4
  have hE2 := hE.fr g24 (by decide)
  refine xr_aload_n C d_Mo_doRemove_42 43 rfl rfl ?_
  refine xr_get C K_Mo 8 d_Mo_doRemove_43 46 rfl q_948 (Or.inl rfl) rfl (mX_o hA) rfl ?_
  refine xr_iload_n C d_Mo_doRemove_46 47 rfl rfl ?_
  refine xr_dup2_11 C d_Mo_doRemove_47 48 rfl rfl rfl ?_
  refine xr_iald (j := m) C d_Mo_doRemove_48 49 rfl (mX_8 hA) rfl (by omega) (by omega) ?_
  refine xr_toi (show _ = nI es.length from hE2.1) ?_
  refine xr_iconst (v := 1) C d_Mo_doRemove_49 50 rfl (by decide) ?_
  refine xr_isub C d_Mo_doRemove_50 51 rfl ?_
  refine xr_toi (show _ = nI (es.length - 1) from pk_sub (a := es.length) (b := 1) (by omega)) ?_
  refine xr_iast (j := m) C d_Mo_doRemove_51 52 rfl (mX_8 hA) rfl (by omega) (by omega) ?_
  obtain ⟨z3, hz3⟩ : ∃ zz9, zz9 = setI z2 8 m (nI (es.length - 1)) := ⟨_, rfl⟩
  refine xG.eqX (show _ = mX E.D X0 A z3 from (mX_s8 (v := (nI (es.length - 1))) hA).trans (by rw [hz3])) ?_
  refine xr_sipush (v := 128) C d_Mo_doRemove_52 55 rfl (by decide) ?_
  refine xr_iload_n C d_Mo_doRemove_55 56 rfl rfl ?_
  refine xr_imul C d_Mo_doRemove_56 57 rfl ?_
  refine xr_toi (show _ = nI (128 * m) from pk_mul 128 m) ?_
  refine xr_iload_n C d_Mo_doRemove_57 58 rfl rfl ?_
  refine xr_iadd C d_Mo_doRemove_58 59 rfl ?_
  refine xr_toi (show _ = nI ((128 * m) + j) from nI_add (128 * m) j) ?_
  refine xr_istore C d_Mo_doRemove_59 61 rfl rfl rfl ?_
  have hf3 : mFr Kall s z3 := by rw [hz3]; exact (g24.mono (by decide)).trans (mFr_I (by decide))
  have h83 : z3.2.1 8 m = nI (es.length - 1) := by rw [hz3, setI_I, if_pos ⟨rfl, rfl⟩]
  have ho3 : oth m s z3 := (oth.fr g24 (by decide)).trans (fun q es2 q1 q2 q3 q4 => ⟨by rw [hz3, setI_I, if_neg (by omega)]; exact q4.1, fun i hi => ⟨⟨by rw [hz3, setI_I, if_neg (by omega)]; exact (q4.2 i hi).1.1, fun k hk => by rw [hz3]; exact (q4.2 i hi).1.2 k hk⟩, ⟨by rw [hz3, setI_I, if_neg (by omega)]; exact (q4.2 i hi).2.1, fun k hk => by rw [hz3]; exact (q4.2 i hi).2.2 k hk⟩⟩⟩)
  have hs3 : ∀ i, i < es.length → eSlot z3 (128 * m + i) (eD es i) := fun i hi => ⟨⟨by rw [hz3, setI_I, if_neg (by omega)]; exact (hE2.2 i hi).1.1, fun k hk => by rw [hz3]; exact (hE2.2 i hi).1.2 k hk⟩, ⟨by rw [hz3, setI_I, if_neg (by omega)]; exact (hE2.2 i hi).2.1, fun k hk => by rw [hz3]; exact (hE2.2 i hi).2.2 k hk⟩⟩
  have ht3 : tol z3 ([] ++ [1] ++ (eD es j).2) := by rw [hz3]; exact g3.fr (mFr_I (a := [8]) (by decide)) (by decide)
  clear hz3
  have loop : ∀ (r c : Nat) (z : MS), c + r = es.length - 1 → j ≤ c → mFr [9, 10, 11, 12] z3 z → (∀ i, i < c → eSlot z (128 * m + i) (eD (es.eraseIdx j) i)) → (∀ i, c < i → i < es.length → eSlot z (128 * m + i) (eD es i)) → oth m s z → xG E (mX E.D X0 A z) 0 0 61 [some (.ref (A 0)), some (.int (nI m)), some (.int (nI j)), some (.int 1), some (.int (nI (128 * m + c)))] [] := by
    intro r
    induction r with
    | zero =>
      intro c z hcr hjc k1 k2 k3 k4
      have h8z : z.2.1 8 m = nI (es.length - 1) := by rw [(k1 8 (by decide)).2.1]; exact h83
      refine xr_iload C d_Mo_doRemove_61 63 rfl rfl ?_
      refine xr_sipush (v := 128) C d_Mo_doRemove_63 66 rfl (by decide) ?_
      refine xr_iload_n C d_Mo_doRemove_66 67 rfl rfl ?_
      refine xr_imul C d_Mo_doRemove_67 68 rfl ?_
      refine xr_toi (show _ = nI (128 * m) from pk_mul 128 m) ?_
      refine xr_aload_n C d_Mo_doRemove_68 69 rfl rfl ?_
      refine xr_get C K_Mo 8 d_Mo_doRemove_69 72 rfl q_948 (Or.inl rfl) rfl (mX_o hA) rfl ?_
      refine xr_iload_n C d_Mo_doRemove_72 73 rfl rfl ?_
      refine xr_iald (j := m) C d_Mo_doRemove_73 74 rfl (mX_8 hA) rfl (by omega) (by omega) ?_
      refine xr_toi (show _ = nI (es.length - 1) from h8z) ?_
      refine xr_iadd C d_Mo_doRemove_74 75 rfl ?_
      refine xr_toi (show _ = nI ((128 * m) + (es.length - 1)) from nI_add (128 * m) (es.length - 1)) ?_
      refine xr_icmp_ge C d_Mo_doRemove_75 78 94 rfl (by decide) (fun _ => ?_) (fun h => absurd (nI_le (show 128 * m + (es.length - 1) ≤ 128 * m + c by omega) (by omega)) h)
      refine xr_vret C d_Mo_doRemove_94 (by omega) (by omega) ⟨rfl, z, rfl, ?_, hf3.trans (k1.mono (by decide)), ?_, k4⟩
      · rw [hpk]
        exact ht3.fr k1 (by decide)
      · rw [hpk]
        exact ⟨by rw [hdel]; exact h8z, fun i hi => k2 i (by rw [hdel] at hi; omega)⟩
    | succ r ih =>
      intro c z hcr hjc k1 k2 k3 k4
      have h8z : z.2.1 8 m = nI (es.length - 1) := by rw [(k1 8 (by decide)).2.1]; exact h83
      refine xr_iload C d_Mo_doRemove_61 63 rfl rfl ?_
      refine xr_sipush (v := 128) C d_Mo_doRemove_63 66 rfl (by decide) ?_
      refine xr_iload_n C d_Mo_doRemove_66 67 rfl rfl ?_
      refine xr_imul C d_Mo_doRemove_67 68 rfl ?_
      refine xr_toi (show _ = nI (128 * m) from pk_mul 128 m) ?_
      refine xr_aload_n C d_Mo_doRemove_68 69 rfl rfl ?_
      refine xr_get C K_Mo 8 d_Mo_doRemove_69 72 rfl q_948 (Or.inl rfl) rfl (mX_o hA) rfl ?_
      refine xr_iload_n C d_Mo_doRemove_72 73 rfl rfl ?_
      refine xr_iald (j := m) C d_Mo_doRemove_73 74 rfl (mX_8 hA) rfl (by omega) (by omega) ?_
      refine xr_toi (show _ = nI (es.length - 1) from h8z) ?_
      refine xr_iadd C d_Mo_doRemove_74 75 rfl ?_
      refine xr_toi (show _ = nI ((128 * m) + (es.length - 1)) from nI_add (128 * m) (es.length - 1)) ?_
      refine xr_icmp_ge C d_Mo_doRemove_75 78 94 rfl (by decide) (fun h => absurd h (nI_ge (show 128 * m + c < 128 * m + (es.length - 1) by omega) (by omega))) (fun _ => ?_)
      refine xr_aload_n C d_Mo_doRemove_78 79 rfl rfl ?_
      refine xr_iload C d_Mo_doRemove_79 81 rfl rfl ?_
      refine xr_iconst (v := 1) C d_Mo_doRemove_81 82 rfl (by decide) ?_
      refine xr_iadd C d_Mo_doRemove_82 83 rfl ?_
      refine xr_toi (show _ = nI ((128 * m + c) + 1) from nI_add (128 * m + c) 1) ?_
      refine xr_iload C d_Mo_doRemove_83 85 rfl rfl ?_
      refine xr_callV C (c_Mo_copyKey hA (f := 128 * m + c + 1) (t := 128 * m + c) (by omega) (by omega)) k_Mo_copyKey d_Mo_doRemove_85 88 rfl (mX_o hA) rfl (Or.inl q_1107) v_Mo_copyKey e_Mo_copyKey h_Mo_copyKey rfl ⟨Nat.le_of_ble_eq_true rfl, Nat.le_of_ble_eq_true rfl, Nat.le_of_ble_eq_true rfl⟩ (by omega) (by omega) (fun v9 X9 hP => ?_) (fun _ _ h => absurd h.1 (by simp))
      obtain ⟨h1, y, rfl, x1, x2, x3⟩ := hP
      cases h1
      refine xr_iinc (v := 1) C d_Mo_doRemove_88 91 rfl rfl rfl rfl (by decide) ?_
      refine xr_goto C d_Mo_doRemove_91 61 (by decide) ?_
      refine xG.eqL (show _ = [some (Value.ref (A 0)), some (Value.int (nI m)), some (Value.int (nI j)), some (Value.int 1), some (Value.int (nI (128 * m + (c + 1))))] by rw [show 128 * m + (c + 1) = 128 * m + c + 1 by omega, ← nI_one (128 * m + c)]; rfl) ?_
      refine ih (c + 1) y (by omega) (by omega) (k1.trans x1) (fun i hi => ?_) (fun i hi hil => x2 _ _ (by omega) (k3 i (by omega) hil)) (k4.trans (fun q es2 q1 q2 q3 q4 => ⟨by rw [(x1 8 (by decide)).2.1]; exact q4.1, fun i9 hi9 => x2 _ _ (by omega) (q4.2 i9 hi9)⟩))
      by_cases e : i = c
      · subst e
        refine x3 _ ?_
        have e2 : eD (es.eraseIdx j) i = eD es (i + 1) := by
          unfold eD
          rw [getDg_erase, if_neg (by omega)]
        rw [e2]
        exact k3 (i + 1) (by omega) (by omega)
      · exact x2 _ _ (by omega) (k2 i (by omega))
  refine loop (es.length - 1 - j) j z3 (by omega) (Nat.le_refl _) mFr.rf (fun i hi => ?_) (fun i _ hil => hs3 i hil) ho3
  have e2 : eD (es.eraseIdx j) i = eD es i := by
    unfold eD
    rw [getDg_erase, if_pos hi]
  rw [e2]
  exact hs3 i (by omega)
