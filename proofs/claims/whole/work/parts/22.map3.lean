/-! The map: its changes. -/
theorem getDg_ins {α : Type} {d : α} {as : List α} {j i : Nat} {v : α} (hj : j ≤ as.length) : (insAt as j v).getD i d = if i < j then as.getD i d else if i = j then v else as.getD (i - 1) d := by
  unfold insAt
  have ht : (as.take j).length = j := by rw [List.length_take]; omega
  rw [List.getD_eq_getElem?_getD]
  by_cases h : i < j
  · rw [if_pos h, List.getElem?_append_left (by omega), List.getElem?_take_of_lt h, List.getD_eq_getElem?_getD]
  · rw [if_neg h, List.getElem?_append_right (by omega), ht]
    by_cases h2 : i = j
    · subst h2
      rw [if_pos rfl, Nat.sub_self]
      rfl
    · rw [if_neg h2, show i - j = (i - j - 1) + 1 by omega, List.getElem?_cons_succ, List.getElem?_drop, List.getD_eq_getElem?_getD]
      congr 2
      omega
theorem getDg_set {α : Type} {d : α} {as : List α} {j i : Nat} {v : α} (hj : j < as.length) : (as.set j v).getD i d = if i = j then v else as.getD i d := by
  rw [List.getD_eq_getElem?_getD, List.getD_eq_getElem?_getD]
  by_cases h : i = j
  · subst h
    rw [if_pos rfl, List.getElem?_set_self hj]
    rfl
  · rw [if_neg h, List.getElem?_set_ne (Ne.symm h)]
theorem getDg_erase {α : Type} {d : α} {as : List α} {j i : Nat} : (as.eraseIdx j).getD i d = if i < j then as.getD i d else as.getD (i + 1) d := by
  rw [List.getD_eq_getElem?_getD, List.getElem?_eraseIdx]
  split <;> rw [List.getD_eq_getElem?_getD]
theorem uns_cons {e : Es} {es : List Es} : uns (e :: es) = un e + uns es := rfl
theorem uns_ins {e : Es} : ∀ {es : List Es} {j : Nat}, j ≤ es.length → uns (insAt es j e) = uns es + un e := by
  intro es j hj
  unfold insAt uns
  rw [List.map_append, List.sum_append, List.map_cons, List.sum_cons]
  have h : (es.map un).sum = ((es.take j).map un).sum + ((es.drop j).map un).sum := by
    rw [← List.sum_append, ← List.map_append, List.take_append_drop]
  omega
theorem uns_set {e : Es} : ∀ {es : List Es} {j : Nat}, j < es.length → uns (es.set j e) + un (eD es j) = uns es + un e
  | [], j, h => absurd h (Nat.not_lt_zero _)
  | a :: es, 0, _ => by
    show un e + uns es + un a = un a + uns es + un e
    omega
  | a :: es, j + 1, h => by
    have ih := uns_set (e := e) (es := es) (j := j) (by rw [List.length_cons] at h; omega)
    show un a + uns (es.set j e) + un (eD es j) = un a + uns es + un e
    omega
theorem uns_erase : ∀ {es : List Es} {j : Nat}, j < es.length → uns (es.eraseIdx j) + un (eD es j) = uns es
  | [], j, h => absurd h (Nat.not_lt_zero _)
  | a :: es, 0, _ => by
    show uns es + un a = un a + uns es
    omega
  | a :: es, j + 1, h => by
    have ih := uns_erase (es := es) (j := j) (by rw [List.length_cons] at h; omega)
    show un a + uns (es.eraseIdx j) + un (eD es j) = un a + uns es
    omega
theorem imEs.ins {I : Nat → Option Imm} {as : List Nat} {es : List Es} {j q : Nat} {e : Es} (h : imEs I as es) (hj : j ≤ es.length) (hq : imE I q e) : imEs I (insAt as j q) (insAt es j e) := by
  have hl := h.1
  refine ⟨by rw [insAt_length (by omega), insAt_length hj, hl], fun i hi => ?_⟩
  rw [insAt_length (by omega)] at hi
  unfold eD
  rw [getDg_ins (by omega), getDg_ins hj]
  by_cases h1 : i < j
  · rw [if_pos h1, if_pos h1]
    exact h.2 i (by omega)
  · rw [if_neg h1, if_neg h1]
    by_cases h2 : i = j
    · rw [if_pos h2, if_pos h2]
      exact hq
    · rw [if_neg h2, if_neg h2]
      exact h.2 (i - 1) (by omega)
theorem imEs.set {I : Nat → Option Imm} {as : List Nat} {es : List Es} {j q : Nat} {e : Es} (h : imEs I as es) (hj : j < es.length) (hq : imE I q e) : imEs I (as.set j q) (es.set j e) := by
  have hl := h.1
  refine ⟨by rw [List.length_set, List.length_set, hl], fun i hi => ?_⟩
  rw [List.length_set] at hi
  unfold eD
  rw [getDg_set (by omega), getDg_set hj]
  by_cases h2 : i = j
  · rw [if_pos h2, if_pos h2]
    exact hq
  · rw [if_neg h2, if_neg h2]
    exact h.2 i hi
theorem imEs.erase {I : Nat → Option Imm} {as : List Nat} {es : List Es} {j : Nat} (h : imEs I as es) (hj : j < es.length) : imEs I (as.eraseIdx j) (es.eraseIdx j) := by
  have hl := h.1
  refine ⟨by rw [List.length_eraseIdx_of_lt (by omega), List.length_eraseIdx_of_lt hj, hl], fun i hi => ?_⟩
  rw [List.length_eraseIdx_of_lt (by omega)] at hi
  unfold eD
  rw [getDg_erase, getDg_erase]
  by_cases h2 : i < j
  · rw [if_pos h2, if_pos h2]
    exact h.2 i (by omega)
  · rw [if_neg h2, if_neg h2]
    exact h.2 (i + 1) (by omega)
theorem mem_ins {α : Type} {as : List α} {j : Nat} {v x : α} (h : x ∈ insAt as j v) : x = v ∨ x ∈ as := by
  unfold insAt at h
  rcases List.mem_append.mp h with h | h
  · exact Or.inr (List.mem_of_mem_take h)
  · rcases List.mem_cons.mp h with h | h
    · exact Or.inl h
    · exact Or.inr (List.mem_of_mem_drop h)
theorem nx_ge {c : Nat} : c ≤ nx c := by
  unfold nx
  split
  · omega
  · split <;> omega
theorem xLi.keep1 {D : va_G} {X : xH} {a b cap mp ci : Nat} {as : List Nat} {fs : List Value} {v : va_E} (h : xLi D X a b cap as) (hm : X mp = some (.inr (ci, fs))) (hc : ci ≠ 7) : xLi D (xup X mp v) a b cap as := by
  obtain ⟨vs, h1⟩ := h.ob
  obtain ⟨f, h2⟩ := h.ar
  refine h.keep (S := [mp]) (xFr_up hm (fun z => z) (by simp)) ?_ ?_
  · rw [List.mem_singleton]
    exact xne h1 hm (by intro h; cases h; exact hc rfl)
  · rw [List.mem_singleton]
    exact xne h2 hm (by intro h; cases h)
theorem xIm.keepL {D : va_G} {X X' : xH} {I : Nat → Option Imm} {a b cap : Nat} {as : List Nat} (hI : xIm D X I) (h : xLi D X a b cap as) (hf : xFr [a, b] X X') : xIm D X' I := by
  obtain ⟨vs, h1⟩ := h.ob
  obtain ⟨f, h2⟩ := h.ar
  refine hI.keep hf (fun q hq => ?_)
  rcases List.mem_cons.mp hq with e | e
  · rw [e]
    exact hI.nob h1 (by decide) (by decide)
  · rw [show q = b by simpa using e]
    exact hI.nar h2
theorem xIm.up1 {D : va_G} {X : xH} {I : Nat → Option Imm} {a ci : Nat} {fs : List Value} {v : va_E} (hI : xIm D X I) (h : X a = some (.inr (ci, fs))) (h4 : ci ≠ 4 ∧ ci ≠ 6) (h5 : ci ≠ 5) : xIm D (xup X a v) I := hI.keep (S := [a]) (xFr_up h (fun z => z) (by simp)) (fun q hq => by
  rw [show q = a by simpa using hq]
  exact hI.nob h h4 h5)
/-- a new entry, session or row of bytes -/
theorem xIm.new {D : va_G} {X : xH} {I : Nat → Option Imm} {q : Nat} {v : Imm} {c : va_E} (hI : xIm D X I) (hq : X q = none) (hv : xIc D (xup X q c) q v) : xIm D (xup X q c) (imUp I q v) := (hI.keep (S := []) (xFr_new hq) (fun _ h => absurd h (List.not_mem_nil))).up hv
set_option maxRecDepth 100000 in
set_option maxHeartbeats 4000000 in
theorem c_KM_insert {l : Launch} {D : va_G} {H0 : Heap} {X : xH} {mp la b cap : Nat} {as : List Nat} {es : List Es} {I : Nat → Option Imm} (hI : xIm D X I) (hM : xMap D X I mp la b cap as es) {kq vq j : Nat} {key value : List Int32} (hk : I kq = some (.inl key)) (hv : I vq = some (.inl value)) (hj : j ≤ es.length) (hoe : okE (key, value)) : xMet l D H0 y_KM_insert b_KM_insert 5 (some .boolean) [] 5 2 202 [.ref mp, .int (nI j), .ref kq, .ref vq] X (fun o X' => o = .inl (some (.int (if es.length < 128 ∧ uns es + un (key, value) ≤ 700 then 1 else 0))) ∧ xMs D X X' I mp la b cap (if es.length < 128 ∧ uns es + un (key, value) ≤ 700 then insAt es j (key, value) else es)) := by
  obtain ⟨hmp, hL, hE, hok⟩ := hM
  obtain ⟨vl, hl⟩ := hL.ob
  have hlen := hE.1
  have hle := hL.len
  refine ⟨[some (.ref mp), some (.int (nI j)), some (.ref kq), some (.ref vq), none], rfl, Nat.le_of_ble_eq_true rfl, fun E hD hH hl _ C => ?_⟩
  subst hD
  subst hH
  subst hl
  refine xr_new (fs := [.null, .null]) C K_En d_KM_insert_0 3 rfl q_691 q_705 q_28 (by intro j hj; match j, hj with | 0, _ => rfl | 1, _ => rfl) (by omega) (by omega) (fun q9 hq9 => ?_)
  refine xr_dup C d_KM_insert_3 4 rfl rfl ?_
  refine xr_aload_n C d_KM_insert_4 5 rfl rfl ?_
  refine xr_aload_n C d_KM_insert_5 6 rfl rfl ?_
  refine xr_callI C (c_En_init xup_self) kc_En_init d_KM_insert_6 9 rfl (Or.inl q_706) v_En_init rfl h_En_init rfl ⟨Nat.le_of_ble_eq_true rfl, Nat.le_of_ble_eq_true rfl, Nat.le_of_ble_eq_true rfl⟩ (by omega) (by omega) (fun v9 X' hP => ?_) (fun _ _ h => absurd h.1 (by simp))
  obtain ⟨h1, rfl⟩ := hP
  cases h1
  refine xG.eqX xup_up ?_
  obtain ⟨I1, hI1d⟩ : ∃ I1, I1 = imUp I q9 (.inr (.inr (.inl (kq, vq)))) := ⟨_, rfl⟩
  obtain ⟨X1, hX1⟩ : ∃ z, z = xup X q9 (.inr (5, [.ref kq, .ref vq])) := ⟨_, rfl⟩
  refine xG.eqX (show _ = X1 from hX1.symm) ?_
  have hfr0 : xFr [] X X1 := by rw [hX1]; exact xFr_new hq9
  have hI1 : xIm E.D X1 I1 := by rw [hX1, hI1d]; exact hI.new hq9 xup_self
  have hle1 : imX X I I1 := by rw [hI1d]; exact imX_up hI hq9
  have hE1 : imE I1 q9 (key, value) := ⟨kq, vq, by rw [hI1d]; exact imUp_self, hle1.1 _ _ hk, hle1.1 _ _ hv⟩
  obtain ⟨p9, q8, hq9c, -⟩ := hE1.use hI1
  have hM1 : xMap E.D X1 I1 mp la b cap as es := ⟨hfr0.use hmp List.not_mem_nil, hL.keep hfr0 List.not_mem_nil List.not_mem_nil, hE.le hle1.1, hok⟩
  obtain ⟨hmp1, hL1, hE2, -⟩ := id hM1
  obtain ⟨vl1, hl1⟩ := hL1.ob
  obtain ⟨fb1, hb1⟩ := hL1.ar
  have hu : un (key, value) ≤ 9 := by
    have h1 := hoe.2.1
    have h2 := hoe.2.2
    unfold un
    omega
  have hus := hok.2.1
  have hal := hok.1
  have no : ¬ (es.length < 128 ∧ uns es + un (key, value) ≤ 700) → ∀ (c s : Nat), c ≤ 2 → s ≤ 202 → xG E X1 c s 40 [some (.ref mp), some (.int (nI j)), some (.ref kq), some (.ref vq), some (.ref q9)] [] := by
    intro h c s hc1 hs1
    refine xr_iconst (v := 0) C d_KM_insert_40 41 rfl (by decide) ?_
    exact xr_zret C d_KM_insert_41 rfl (by omega) (by omega) ⟨by rw [if_neg h], by rw [if_neg h]; exact ⟨I1, b, cap, as, hle1, hI1, hM1, hfr0.mono (fun q hq => absurd hq List.not_mem_nil), Or.inl rfl, Nat.le_refl _⟩⟩
  refine xr_astore C d_KM_insert_9 11 rfl rfl rfl ?_
  refine xr_aload_n C d_KM_insert_11 12 rfl rfl ?_
  refine xr_get C K_KM 0 d_KM_insert_12 15 rfl q_77 (Or.inl rfl) rfl (by first | assumption | exact xup_self | exact (xup_ne (by assumption)).trans (by assumption) | exact (xup_ne (Ne.symm (by assumption))).trans (by assumption) | exact (xup_ne (by assumption)).trans xup_self | exact (xup_ne (Ne.symm (by assumption))).trans xup_self) rfl ?_
  refine xr_callV C (l_size hL1) k_AL_size d_KM_insert_15 18 rfl (by first | assumption | exact xup_self | exact (xup_ne (by assumption)).trans (by assumption) | exact (xup_ne (Ne.symm (by assumption))).trans (by assumption) | exact (xup_ne (by assumption)).trans xup_self | exact (xup_ne (Ne.symm (by assumption))).trans xup_self) rfl (Or.inl q_689) v_AL_size e_AL_size h_AL_size rfl ⟨Nat.le_of_ble_eq_true rfl, Nat.le_of_ble_eq_true rfl, Nat.le_of_ble_eq_true rfl⟩ (by omega) (by omega) (fun v9 X1 hP => ?_) (fun _ _ h => absurd h.1 (by simp))
  obtain ⟨h1, rfl⟩ := hP
  cases h1
  refine xr_sipush (v := 128) C d_KM_insert_18 21 rfl (by decide) ?_
  refine xr_toi (show _ = nI 128 from rfl) ?_
  refine xr_icmp_ge C d_KM_insert_21 24 40 rfl (by decide) (fun h => no (fun q => nI_ge (show as.length < 128 by omega) (by omega) h) _ _ (by omega) (by omega)) (fun h21 => ?_)
  have hal2 : es.length < 128 := by
    rcases Nat.lt_or_ge es.length 128 with h | h
    · exact h
    · exact absurd (nI_le (show 128 ≤ as.length by omega) (by omega)) h21
  refine xr_aload_n C d_KM_insert_24 25 rfl rfl ?_
  refine xr_get C K_KM 1 d_KM_insert_25 28 rfl q_80 (Or.inl rfl) rfl (by first | assumption | exact xup_self | exact (xup_ne (by assumption)).trans (by assumption) | exact (xup_ne (Ne.symm (by assumption))).trans (by assumption) | exact (xup_ne (by assumption)).trans xup_self | exact (xup_ne (Ne.symm (by assumption))).trans xup_self) rfl ?_
  refine xr_aload C d_KM_insert_28 30 rfl rfl ?_
  refine xr_callV C (c_En_units hI1 hE1) k_En_units d_KM_insert_30 33 rfl hq9c rfl (Or.inl q_721) v_En_units e_En_units h_En_units rfl ⟨Nat.le_of_ble_eq_true rfl, Nat.le_of_ble_eq_true rfl, Nat.le_of_ble_eq_true rfl⟩ (by omega) (by omega) (fun v9 X1 hP => ?_) (fun _ _ h => absurd h.1 (by simp))
  obtain ⟨h1, rfl⟩ := hP
  cases h1
  refine xr_iadd C d_KM_insert_33 34 rfl ?_
  refine xr_toi (show _ = nI (uns es + un (key, value)) from nI_add _ _) ?_
  refine xr_sipush (v := 700) C d_KM_insert_34 37 rfl (by decide) ?_
  refine xr_toi (show _ = nI 700 from rfl) ?_
  refine xr_icmp_le C d_KM_insert_37 40 42 rfl (by decide) (fun h37 => ?_) (fun h => no (fun q => h (nI_le q.2 (by omega))) _ _ (by omega) (by omega))
  have hcd : es.length < 128 ∧ uns es + un (key, value) ≤ 700 := ⟨hal2, (nI_leI (by omega) (by omega)).mp h37⟩
  refine xr_aload_n C d_KM_insert_42 43 rfl rfl ?_
  refine xr_get C K_KM 0 d_KM_insert_43 46 rfl q_77 (Or.inl rfl) rfl (by first | assumption | exact xup_self | exact (xup_ne (by assumption)).trans (by assumption) | exact (xup_ne (Ne.symm (by assumption))).trans (by assumption) | exact (xup_ne (by assumption)).trans xup_self | exact (xup_ne (Ne.symm (by assumption))).trans xup_self) rfl ?_
  refine xr_iload_n C d_KM_insert_46 47 rfl rfl ?_
  refine xr_aload C d_KM_insert_47 49 rfl rfl ?_
  refine xr_callV C (l_insert hL1 (by omega) (by omega) (hE2.ob hI1) (hE1.ob hI1)) k_AL_add2 d_KM_insert_49 52 rfl (by first | assumption | exact xup_self | exact (xup_ne (by assumption)).trans (by assumption) | exact (xup_ne (Ne.symm (by assumption))).trans (by assumption) | exact (xup_ne (by assumption)).trans xup_self | exact (xup_ne (Ne.symm (by assumption))).trans xup_self) rfl (Or.inl q_730) v_AL_add2 e_AL_add2 h_AL_add2 rfl ⟨Nat.le_of_ble_eq_true rfl, Nat.le_of_ble_eq_true rfl, Nat.le_of_ble_eq_true rfl⟩ (by omega) (by omega) (fun v9 X2 hP => ?_) (fun _ _ h => absurd h.1 (by simp))
  obtain ⟨h1, b2, hL2, hfr2, hb2⟩ := hP
  cases h1
  have hI2 := hI1.keepL hL1 hfr2
  have hmp2 : X2 mp = some (.inr (2, [.ref la, .int (nI (uns es))])) := hfr2.use hmp1 (by
    simp only [List.mem_cons, List.not_mem_nil, or_false, not_or]
    exact ⟨xne hmp1 hl1 (by intro h; cases h), xne hmp1 hb1 (by intro h; cases h)⟩)
  obtain ⟨p7, q7, hq9d, -⟩ := hE1.use hI2
  refine xr_aload_n C d_KM_insert_52 53 rfl rfl ?_
  refine xr_dup C d_KM_insert_53 54 rfl rfl ?_
  refine xr_get C K_KM 1 d_KM_insert_54 57 rfl q_80 (Or.inl rfl) rfl (by first | assumption | exact xup_self | exact (xup_ne (by assumption)).trans (by assumption) | exact (xup_ne (Ne.symm (by assumption))).trans (by assumption) | exact (xup_ne (by assumption)).trans xup_self | exact (xup_ne (Ne.symm (by assumption))).trans xup_self) rfl ?_
  refine xr_aload C d_KM_insert_57 59 rfl rfl ?_
  refine xr_callV C (c_En_units hI2 hE1) k_En_units d_KM_insert_59 62 rfl hq9d rfl (Or.inl q_721) v_En_units e_En_units h_En_units rfl ⟨Nat.le_of_ble_eq_true rfl, Nat.le_of_ble_eq_true rfl, Nat.le_of_ble_eq_true rfl⟩ (by omega) (by omega) (fun v9 X2 hP => ?_) (fun _ _ h => absurd h.1 (by simp))
  obtain ⟨h1, rfl⟩ := hP
  cases h1
  refine xr_iadd C d_KM_insert_62 63 rfl ?_
  refine xr_toi (show _ = nI (uns es + un (key, value)) from nI_add _ _) ?_
  refine xr_put C K_KM 1 d_KM_insert_63 66 rfl q_80 (Or.inl rfl) rfl rfl rfl rfl (by first | assumption | exact xup_self | exact (xup_ne (by assumption)).trans (by assumption) | exact (xup_ne (Ne.symm (by assumption))).trans (by assumption) | exact (xup_ne (by assumption)).trans xup_self | exact (xup_ne (Ne.symm (by assumption))).trans xup_self) rfl rfl ?_
  refine xr_iconst (v := 1) C d_KM_insert_66 67 rfl (by decide) ?_
  refine xr_zret C d_KM_insert_67 rfl (by omega) (by omega) ⟨by rw [if_pos hcd], ?_⟩
  rw [if_pos hcd]
  refine ⟨I1, b2, _, insAt as j q9, hle1, hI2.up1 hmp2 (by decide) (by decide), ⟨?_, hL2.keep1 hmp2 (by decide), hE2.ins hj hE1, ?_, ?_, ?_⟩, ?_, ?_, ?_⟩
  · rw [uns_ins hj]
    exact xup_self
  · rw [insAt_length hj]
    omega
  · rw [uns_ins hj]
    exact hcd.2
  · intro e he
    rcases mem_ins he with h | h
    · rw [h]
      exact hoe
    · exact hok.2.2 e h
  · refine ((hfr0.mono (fun q hq => absurd hq List.not_mem_nil)).trans (hfr2.mono ?_)).trans (xFr_up hmp2 (fun z => z) (by simp))
    intro q hq
    exact List.mem_cons_of_mem _ hq
  · exact hb2.imp id (fun e => hfr0.2 _ e)
  · split
    · exact Nat.le_refl _
    · exact nx_ge
set_option maxRecDepth 100000 in
set_option maxHeartbeats 4000000 in
theorem c_KM_replace {l : Launch} {D : va_G} {H0 : Heap} {X : xH} {mp la b cap : Nat} {as : List Nat} {es : List Es} {I : Nat → Option Imm} (hI : xIm D X I) (hM : xMap D X I mp la b cap as es) {vq j : Nat} {value : List Int32} (hv : I vq = some (.inl value)) (hj : j < es.length) (hvl : value.length ≤ 100) : xMet l D H0 y_KM_replace b_KM_replace 6 (some .boolean) [] 3 1 2 [.ref mp, .int (nI j), .ref vq] X (fun o X' => o = .inl (some (.int (if uns (es.set j ((eD es j).1, value)) ≤ 700 then 1 else 0))) ∧ xMs D X X' I mp la b cap (if uns (es.set j ((eD es j).1, value)) ≤ 700 then es.set j ((eD es j).1, value) else es)) := by
  obtain ⟨hmp, hL, hE, hok⟩ := hM
  obtain ⟨vl, hl⟩ := hL.ob
  have hlen := hE.1
  have hle := hL.len
  refine ⟨[some (.ref mp), some (.int (nI j)), some (.ref vq), none, none, none], rfl, Nat.le_of_ble_eq_true rfl, fun E hD hH hl _ C => ?_⟩
  subst hD
  subst hH
  subst hl
  have hja : j < as.length := by omega
  obtain ⟨p0, q0, k1, k2, k3, k4, k5⟩ := (hE.2 j hja).use hI
  have hoe0 := hok.2.2 _ (eD_mem hj)
  have hus := hok.2.1
  have hal := hok.1
  have hst := uns_set (e := ((eD es j).1, value)) hj
  refine xr_aload_n C d_KM_replace_0 1 rfl rfl ?_
  refine xr_get C K_KM 0 d_KM_replace_1 4 rfl q_77 (Or.inl rfl) rfl (by first | assumption | exact xup_self | exact (xup_ne (by assumption)).trans (by assumption) | exact (xup_ne (Ne.symm (by assumption))).trans (by assumption) | exact (xup_ne (by assumption)).trans xup_self | exact (xup_ne (Ne.symm (by assumption))).trans xup_self) rfl ?_
  refine xr_iload_n C d_KM_replace_4 5 rfl rfl ?_
  refine xr_callV C (l_get hL hja) k_AL_get d_KM_replace_5 8 rfl (by first | assumption | exact xup_self | exact (xup_ne (by assumption)).trans (by assumption) | exact (xup_ne (Ne.symm (by assumption))).trans (by assumption) | exact (xup_ne (by assumption)).trans xup_self | exact (xup_ne (Ne.symm (by assumption))).trans xup_self) rfl (Or.inl q_690) v_AL_get e_AL_get h_AL_get rfl ⟨Nat.le_of_ble_eq_true rfl, Nat.le_of_ble_eq_true rfl, Nat.le_of_ble_eq_true rfl⟩ (by omega) (by omega) (fun v9 X hP => ?_) (fun _ _ h => absurd h.1 (by simp))
  obtain ⟨h1, rfl⟩ := hP
  cases h1
  refine xr_cast C d_KM_replace_8 11 rfl k1 rfl q_691 ?_
  refine xr_astore_n C d_KM_replace_11 12 rfl rfl rfl ?_
  refine xr_new (fs := [.null, .null]) C K_En d_KM_replace_12 15 rfl q_691 q_705 q_28 (by intro j hj; match j, hj with | 0, _ => rfl | 1, _ => rfl) (by omega) (by omega) (fun q9 hq9 => ?_)
  have k1' := xup_fresh (v := .inr (5, [.null, .null])) k1 hq9
  refine xr_dup C d_KM_replace_15 16 rfl rfl ?_
  refine xr_aload_n C d_KM_replace_16 17 rfl rfl ?_
  refine xr_get C K_En 0 d_KM_replace_17 20 rfl q_711 (Or.inl rfl) rfl k1' rfl ?_
  refine xr_aload_n C d_KM_replace_20 21 rfl rfl ?_
  refine xr_callI C (c_En_init xup_self) kc_En_init d_KM_replace_21 24 rfl (Or.inl q_706) v_En_init rfl h_En_init rfl ⟨Nat.le_of_ble_eq_true rfl, Nat.le_of_ble_eq_true rfl, Nat.le_of_ble_eq_true rfl⟩ (by omega) (by omega) (fun v9 X' hP => ?_) (fun _ _ h => absurd h.1 (by simp))
  obtain ⟨h1, rfl⟩ := hP
  cases h1
  refine xG.eqX xup_up ?_
  obtain ⟨I1, hI1d⟩ : ∃ I1, I1 = imUp I q9 (.inr (.inr (.inl (p0, vq)))) := ⟨_, rfl⟩
  obtain ⟨X1, hX1⟩ : ∃ z, z = xup X q9 (.inr (5, [.ref p0, .ref vq])) := ⟨_, rfl⟩
  refine xG.eqX (show _ = X1 from hX1.symm) ?_
  have hfr0 : xFr [] X X1 := by rw [hX1]; exact xFr_new hq9
  have hI1 : xIm E.D X1 I1 := by rw [hX1, hI1d]; exact hI.new hq9 xup_self
  have hle1 : imX X I I1 := by rw [hI1d]; exact imX_up hI hq9
  have hE1 : imE I1 q9 ((eD es j).1, value) := ⟨p0, vq, by rw [hI1d]; exact imUp_self, hle1.1 _ _ k4, hle1.1 _ _ hv⟩
  obtain ⟨p9, q8, hq9c, -⟩ := hE1.use hI1
  have hM1 : xMap E.D X1 I1 mp la b cap as es := ⟨hfr0.use hmp List.not_mem_nil, hL.keep hfr0 List.not_mem_nil List.not_mem_nil, hE.le hle1.1, hok⟩
  obtain ⟨hmp1, hL1, hE2, -⟩ := id hM1
  obtain ⟨vl1, hl1⟩ := hL1.ob
  obtain ⟨fb1, hb1⟩ := hL1.ar
  have hE0 := hE2.2 j hja
  obtain ⟨p5, q5, k6, -⟩ := hE0.use hI1
  have hu : un ((eD es j).1, value) ≤ 9 := by
    have h1 := hoe0.2.1
    unfold un
    show ((eD es j).1.length + value.length + 15) / 16 ≤ 9
    omega
  have hle0 : un (eD es j) ≤ uns es := by
    have := uns_erase hj
    omega
  refine xr_astore C d_KM_replace_24 26 rfl rfl rfl ?_
  refine xr_aload_n C d_KM_replace_26 27 rfl rfl ?_
  refine xr_get C K_KM 1 d_KM_replace_27 30 rfl q_80 (Or.inl rfl) rfl (by first | assumption | exact xup_self | exact (xup_ne (by assumption)).trans (by assumption) | exact (xup_ne (Ne.symm (by assumption))).trans (by assumption) | exact (xup_ne (by assumption)).trans xup_self | exact (xup_ne (Ne.symm (by assumption))).trans xup_self) rfl ?_
  refine xr_aload_n C d_KM_replace_30 31 rfl rfl ?_
  refine xr_callV C (c_En_units hI1 hE0) k_En_units d_KM_replace_31 34 rfl k6 rfl (Or.inl q_721) v_En_units e_En_units h_En_units rfl ⟨Nat.le_of_ble_eq_true rfl, Nat.le_of_ble_eq_true rfl, Nat.le_of_ble_eq_true rfl⟩ (by omega) (by omega) (fun v9 X1 hP => ?_) (fun _ _ h => absurd h.1 (by simp))
  obtain ⟨h1, rfl⟩ := hP
  cases h1
  refine xr_isub C d_KM_replace_34 35 rfl ?_
  refine xr_toi (show _ = nI (uns es - un (eD es j)) from pk_sub hle0) ?_
  refine xr_aload C d_KM_replace_35 37 rfl rfl ?_
  refine xr_callV C (c_En_units hI1 hE1) k_En_units d_KM_replace_37 40 rfl hq9c rfl (Or.inl q_721) v_En_units e_En_units h_En_units rfl ⟨Nat.le_of_ble_eq_true rfl, Nat.le_of_ble_eq_true rfl, Nat.le_of_ble_eq_true rfl⟩ (by omega) (by omega) (fun v9 X1 hP => ?_) (fun _ _ h => absurd h.1 (by simp))
  obtain ⟨h1, rfl⟩ := hP
  cases h1
  refine xr_iadd C d_KM_replace_40 41 rfl ?_
  refine xr_toi (show _ = nI (uns (es.set j ((eD es j).1, value))) from (nI_add _ _).trans (by congr 1; omega)) ?_
  refine xr_istore C d_KM_replace_41 43 rfl rfl rfl ?_
  refine xr_iload C d_KM_replace_43 45 rfl rfl ?_
  refine xr_sipush (v := 700) C d_KM_replace_45 48 rfl (by decide) ?_
  refine xr_toi (show _ = nI 700 from rfl) ?_
  refine xr_icmp_le C d_KM_replace_48 51 53 rfl (by decide) (fun h48 => ?_) (fun h48 => ?_)
  · have hcd : uns (es.set j ((eD es j).1, value)) ≤ 700 := (nI_leI (by omega) (by omega)).mp h48
    refine xr_aload_n C d_KM_replace_53 54 rfl rfl ?_
    refine xr_get C K_KM 0 d_KM_replace_54 57 rfl q_77 (Or.inl rfl) rfl (by first | assumption | exact xup_self | exact (xup_ne (by assumption)).trans (by assumption) | exact (xup_ne (Ne.symm (by assumption))).trans (by assumption) | exact (xup_ne (by assumption)).trans xup_self | exact (xup_ne (Ne.symm (by assumption))).trans xup_self) rfl ?_
    refine xr_iload_n C d_KM_replace_57 58 rfl rfl ?_
    refine xr_aload C d_KM_replace_58 60 rfl rfl ?_
    refine xr_callV C (l_set hL1 hja (hE1.ob hI1)) k_AL_set d_KM_replace_60 63 rfl (by first | assumption | exact xup_self | exact (xup_ne (by assumption)).trans (by assumption) | exact (xup_ne (Ne.symm (by assumption))).trans (by assumption) | exact (xup_ne (by assumption)).trans xup_self | exact (xup_ne (Ne.symm (by assumption))).trans xup_self) rfl (Or.inl q_725) v_AL_set e_AL_set h_AL_set rfl ⟨Nat.le_of_ble_eq_true rfl, Nat.le_of_ble_eq_true rfl, Nat.le_of_ble_eq_true rfl⟩ (by omega) (by omega) (fun v9 X2 hP => ?_) (fun _ _ h => absurd h.1 (by simp))
    obtain ⟨h1, hL2, hfr2⟩ := hP
    cases h1
    have hI2 := hI1.keepL hL1 hfr2
    have hmp2 : X2 mp = some (.inr (2, [.ref la, .int (nI (uns es))])) := hfr2.use hmp1 (by
      simp only [List.mem_cons, List.not_mem_nil, or_false, not_or]
      exact ⟨xne hmp1 hl1 (by intro h; cases h), xne hmp1 hb1 (by intro h; cases h)⟩)
    refine xr_pop C d_KM_replace_63 64 rfl rfl ?_
    refine xr_aload_n C d_KM_replace_64 65 rfl rfl ?_
    refine xr_iload C d_KM_replace_65 67 rfl rfl ?_
    refine xr_put C K_KM 1 d_KM_replace_67 70 rfl q_80 (Or.inl rfl) rfl rfl rfl rfl (by first | assumption | exact xup_self | exact (xup_ne (by assumption)).trans (by assumption) | exact (xup_ne (Ne.symm (by assumption))).trans (by assumption) | exact (xup_ne (by assumption)).trans xup_self | exact (xup_ne (Ne.symm (by assumption))).trans xup_self) rfl rfl ?_
    refine xr_iconst (v := 1) C d_KM_replace_70 71 rfl (by decide) ?_
    refine xr_zret C d_KM_replace_71 rfl (by omega) (by omega) ⟨by rw [if_pos hcd], ?_⟩
    rw [if_pos hcd]
    refine ⟨I1, b, cap, as.set j q9, hle1, hI2.up1 hmp2 (by decide) (by decide), ⟨xup_self, hL2.keep1 hmp2 (by decide), hE2.set hj hE1, ?_, hcd, ?_⟩, ?_, Or.inl rfl, Nat.le_refl _⟩
    · rw [List.length_set]
      exact hal
    · intro e he
      rcases List.mem_or_eq_of_mem_set he with h | h
      · exact hok.2.2 e h
      · rw [h]
        exact ⟨hoe0.1, hoe0.2.1, hvl⟩
    · refine ((hfr0.mono (fun q hq => absurd hq List.not_mem_nil)).trans (hfr2.mono ?_)).trans (xFr_up hmp2 (fun z => z) (by simp))
      intro q hq
      exact List.mem_cons_of_mem _ hq
  · have hcd : ¬ uns (es.set j ((eD es j).1, value)) ≤ 700 := fun q => h48 (nI_le q (by omega))
    refine xr_iconst (v := 0) C d_KM_replace_51 52 rfl (by decide) ?_
    exact xr_zret C d_KM_replace_52 rfl (by omega) (by omega) ⟨by rw [if_neg hcd], by rw [if_neg hcd]; exact ⟨I1, b, cap, as, hle1, hI1, hM1, hfr0.mono (fun q hq => absurd hq List.not_mem_nil), Or.inl rfl, Nat.le_refl _⟩⟩
