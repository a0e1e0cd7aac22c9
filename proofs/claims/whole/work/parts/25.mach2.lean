/-! Machines: compared, told. -/
theorem ss_ext {ss tt : List Ss} (hl : ss.length = tt.length) (h : ∀ i, i < ss.length → sD ss i = sD tt i) : ss = tt := by
  refine List.ext_getElem hl (fun i h1 h2 => ?_)
  have := h i h1
  unfold sD at this
  rw [List.getD_eq_getElem?_getD, List.getD_eq_getElem?_getD, List.getElem?_eq_getElem h1, List.getElem?_eq_getElem h2] at this
  exact this
theorem es_ext {ss tt : List Es} (hl : ss.length = tt.length) (h : ∀ i, i < ss.length → eD ss i = eD tt i) : ss = tt := by
  refine List.ext_getElem hl (fun i h1 h2 => ?_)
  have := h i h1
  unfold eD at this
  rw [List.getD_eq_getElem?_getD, List.getD_eq_getElem?_getD, List.getElem?_eq_getElem h1, List.getElem?_eq_getElem h2] at this
  exact this
theorem takeg {α : Type} {l : List α} {i : Nat} (d : α) (h : i < l.length) : l.take (i + 1) = l.take i ++ [l.getD i d] := by
  rw [List.getD_eq_getElem?_getD, List.getElem?_eq_getElem h, Option.getD_some, List.take_append_getElem]
def rbS (ss : List Ss) : Nat := (ss.map (fun s => 18 + s.2.2.2.2.length)).sum
def rbE (es : List Es) : Nat := (es.map (fun e => 3 + e.1.length + e.2.length)).sum
def telS (ss : List Ss) : List Int32 := ss.flatMap tellS
def telE (es : List Es) : List Int32 := es.flatMap tellE
theorem rbS_take {ss : List Ss} {i : Nat} (h : i < ss.length) : rbS (ss.take (i + 1)) = rbS (ss.take i) + (18 + (sD ss i).2.2.2.2.length) := by
  unfold rbS
  rw [takeg (0, 0, 0, 0, []) h, List.map_append, List.sum_append]
  rfl
theorem rbE_take {es : List Es} {i : Nat} (h : i < es.length) : rbE (es.take (i + 1)) = rbE (es.take i) + (3 + (eD es i).1.length + (eD es i).2.length) := by
  unfold rbE
  rw [takeg ([], []) h, List.map_append, List.sum_append]
  rfl
theorem telS_take {ss : List Ss} {i : Nat} (h : i < ss.length) : telS (ss.take (i + 1)) = telS (ss.take i) ++ tellS (sD ss i) := by
  unfold telS
  rw [takeg (0, 0, 0, 0, []) h, List.flatMap_append]
  simp [sD]
theorem telE_take {es : List Es} {i : Nat} (h : i < es.length) : telE (es.take (i + 1)) = telE (es.take i) ++ tellE (eD es i) := by
  unfold telE
  rw [takeg ([], []) h, List.flatMap_append]
  simp [eD]
theorem telS_len : ∀ ss : List Ss, (telS ss).length = rbS ss
  | [] => rfl
  | s :: ss => by
    have ih := telS_len ss
    show (tellS s ++ telS ss).length = (18 + s.2.2.2.2.length) + rbS ss
    rw [List.length_append, tellS_len, ih]
theorem telE_len : ∀ es : List Es, (telE es).length = rbE es
  | [] => rfl
  | e :: es => by
    have ih := telE_len es
    show (tellE e ++ telE es).length = (3 + e.1.length + e.2.length) + rbE es
    rw [List.length_append, tellE_len, ih]
theorem rbS_mono {ss : List Ss} {i : Nat} : rbS (ss.take i) ≤ rbS ss := by
  have h : rbS ss = rbS (ss.take i) + rbS (ss.drop i) := by
    unfold rbS
    rw [← List.sum_append, ← List.map_append, List.take_append_drop]
  omega
theorem rbE_mono {ss : List Es} {i : Nat} : rbE (ss.take i) ≤ rbE ss := by
  have h : rbE ss = rbE (ss.take i) + rbE (ss.drop i) := by
    unfold rbE
    rw [← List.sum_append, ← List.map_append, List.take_append_drop]
  omega
theorem rbS_le {ss : List Ss} (h : ∀ s ∈ ss, s.2.2.2.2.length ≤ 104) : rbS ss ≤ 122 * ss.length := by
  induction ss with
  | nil => exact Nat.le_refl _
  | cons s ss ih =>
    have h1 := h s (List.mem_cons_self)
    have h2 := ih (fun t ht => h t (List.mem_cons_of_mem _ ht))
    show 18 + s.2.2.2.2.length + rbS ss ≤ 122 * (ss.length + 1)
    omega
theorem rbE_le {es : List Es} : rbE es ≤ 3 * es.length + 16 * uns es := by
  induction es with
  | nil => exact Nat.le_refl _
  | cons e es ih =>
    show 3 + e.1.length + e.2.length + rbE es ≤ 3 * (es.length + 1) + 16 * (un e + uns es)
    have : e.1.length + e.2.length ≤ 16 * un e := by
      unfold un
      omega
    omega
theorem rb_top {ss : List Ss} {es : List Es} (h1 : okS ss) (h2 : okM es) : rbS ss + rbE es ≤ 13536 := by
  have a := rbS_le h1.2
  have b := rbE_le (es := es)
  have c := h1.1
  have d := h2.1
  have e := h2.2.1
  omega
set_option maxRecDepth 100000 in
set_option maxHeartbeats 4000000 in
theorem c_Ma_hasSessionsOf {l : Launch} {D : va_G} {H0 : Heap} {X : xH} {a ls bs cs mp la be ce : Nat} {as1 as2 : List Nat} {ss : List Ss} {es : List Es} {g : Int32} {a' ls' bs' cs' mp' la' be' ce' : Nat} {as1' as2' : List Nat} {ss' : List Ss} {es' : List Es} {g' : Int32} {I : Nat → Option Imm} (hI : xIm D X I) (hA : xMac D X I a ls bs cs mp la be ce as1 as2 ss es g) (hB : xMac D X I a' ls' bs' cs' mp' la' be' ce' as1' as2' ss' es' g') : xMet l D H0 y_Ma_hasSessionsOf b_Ma_hasSessionsOf 3 (some .boolean) [] 3 0 0 [.ref a, .ref a'] X (fun o X' => o = .inl (some ((.int (if ss = ss' then 1 else 0)))) ∧ X' = X) := by
  obtain ⟨ha, hL, hE, hok, hM, hll, hbb⟩ := id hA
  obtain ⟨vl, hl⟩ := hL.ob
  have hlen := hE.1
  have hle := hL.len
  have hok1 := hok.1
  obtain ⟨ha', hL', hE', hok', hM', hll', hbb'⟩ := id hB
  obtain ⟨vl', hl'⟩ := hL'.ob
  have hlen' := hE'.1
  have hle' := hL'.len
  refine ⟨[some (.ref a), some (.ref a'), none], rfl, Nat.le_of_ble_eq_true rfl, fun E hD hH hl _ C => ?_⟩
  subst hD
  subst hH
  subst hl
  have no : ∀ pc, (pc = 17 ∨ pc = 60) → ss ≠ ss' → ∀ w, xG E X 0 0 pc [some (.ref a), some (.ref a'), w] [] := by
    intro pc hpc h w
    rcases hpc with e | e
    · subst e
      refine xr_iconst (v := 0) C d_Ma_hasSessionsOf_17 18 rfl (by decide) ?_
      exact xr_zret C d_Ma_hasSessionsOf_18 rfl (by omega) (by omega) ⟨by rw [if_neg h], rfl⟩
    · subst e
      refine xr_iconst (v := 0) C d_Ma_hasSessionsOf_60 61 rfl (by decide) ?_
      exact xr_zret C d_Ma_hasSessionsOf_61 rfl (by omega) (by omega) ⟨by rw [if_neg h], rfl⟩
  refine xr_aload_n C d_Ma_hasSessionsOf_0 1 rfl rfl ?_
  refine xr_get C K_Ma 0 d_Ma_hasSessionsOf_1 4 rfl q_88 (Or.inl rfl) rfl (by first | assumption | exact xup_self | exact (xup_ne (by assumption)).trans (by assumption) | exact (xup_ne (Ne.symm (by assumption))).trans (by assumption) | exact (xup_ne (by assumption)).trans xup_self | exact (xup_ne (Ne.symm (by assumption))).trans xup_self) rfl ?_
  refine xr_callV C (l_size hL) k_AL_size d_Ma_hasSessionsOf_4 7 rfl (by first | assumption | exact xup_self | exact (xup_ne (by assumption)).trans (by assumption) | exact (xup_ne (Ne.symm (by assumption))).trans (by assumption) | exact (xup_ne (by assumption)).trans xup_self | exact (xup_ne (Ne.symm (by assumption))).trans xup_self) rfl (Or.inl q_270) v_AL_size e_AL_size h_AL_size rfl ⟨Nat.le_of_ble_eq_true rfl, Nat.le_of_ble_eq_true rfl, Nat.le_of_ble_eq_true rfl⟩ (by omega) (by omega) (fun v9 X hP => ?_) (fun _ _ h => absurd h.1 (by simp))
  obtain ⟨h1, rfl⟩ := hP
  cases h1
  refine xr_aload_n C d_Ma_hasSessionsOf_7 8 rfl rfl ?_
  refine xr_get C K_Ma 0 d_Ma_hasSessionsOf_8 11 rfl q_88 (Or.inl rfl) rfl (by first | assumption | exact xup_self | exact (xup_ne (by assumption)).trans (by assumption) | exact (xup_ne (Ne.symm (by assumption))).trans (by assumption) | exact (xup_ne (by assumption)).trans xup_self | exact (xup_ne (Ne.symm (by assumption))).trans xup_self) rfl ?_
  refine xr_callV C (l_size hL') k_AL_size d_Ma_hasSessionsOf_11 14 rfl (by first | assumption | exact xup_self | exact (xup_ne (by assumption)).trans (by assumption) | exact (xup_ne (Ne.symm (by assumption))).trans (by assumption) | exact (xup_ne (by assumption)).trans xup_self | exact (xup_ne (Ne.symm (by assumption))).trans xup_self) rfl (Or.inl q_270) v_AL_size e_AL_size h_AL_size rfl ⟨Nat.le_of_ble_eq_true rfl, Nat.le_of_ble_eq_true rfl, Nat.le_of_ble_eq_true rfl⟩ (by omega) (by omega) (fun v9 X hP => ?_) (fun _ _ h => absurd h.1 (by simp))
  obtain ⟨h1, rfl⟩ := hP
  cases h1
  refine xr_icmp_eq C d_Ma_hasSessionsOf_14 17 19 rfl (by decide) (fun h14 => ?_) (fun h14 => no 17 (Or.inl rfl) (fun e => h14 (by rw [hlen, hlen', e])) _)
  have hll2 : as1.length = as1'.length := (nI_eq (by omega) (by omega)).mp h14
  have loop : ∀ (k i : Nat), i + k = ss.length → (∀ j, j < i → sD ss j = sD ss' j) → xG E X 0 0 21 [some (.ref a), some (.ref a'), some (.int (nI i))] [] := by
    intro k
    induction k with
    | zero =>
      intro i hi h1
      refine xr_iload_n C d_Ma_hasSessionsOf_21 22 rfl rfl ?_
      refine xr_aload_n C d_Ma_hasSessionsOf_22 23 rfl rfl ?_
      refine xr_get C K_Ma 0 d_Ma_hasSessionsOf_23 26 rfl q_88 (Or.inl rfl) rfl (by first | assumption | exact xup_self | exact (xup_ne (by assumption)).trans (by assumption) | exact (xup_ne (Ne.symm (by assumption))).trans (by assumption) | exact (xup_ne (by assumption)).trans xup_self | exact (xup_ne (Ne.symm (by assumption))).trans xup_self) rfl ?_
      refine xr_callV C (l_size hL) k_AL_size d_Ma_hasSessionsOf_26 29 rfl (by first | assumption | exact xup_self | exact (xup_ne (by assumption)).trans (by assumption) | exact (xup_ne (Ne.symm (by assumption))).trans (by assumption) | exact (xup_ne (by assumption)).trans xup_self | exact (xup_ne (Ne.symm (by assumption))).trans xup_self) rfl (Or.inl q_270) v_AL_size e_AL_size h_AL_size rfl ⟨Nat.le_of_ble_eq_true rfl, Nat.le_of_ble_eq_true rfl, Nat.le_of_ble_eq_true rfl⟩ (by omega) (by omega) (fun v9 X hP => ?_) (fun _ _ h => absurd h.1 (by simp))
      obtain ⟨h1, rfl⟩ := hP
      cases h1
      refine xr_icmp_ge C d_Ma_hasSessionsOf_29 32 68 rfl (by decide) (fun _ => ?_) (fun h => absurd (nI_le (show as1.length ≤ i by omega) (by omega)) h)
      refine xr_iconst (v := 1) C d_Ma_hasSessionsOf_68 69 rfl (by decide) ?_
      exact xr_zret C d_Ma_hasSessionsOf_69 rfl (by omega) (by omega) ⟨by rw [if_pos (ss_ext (by omega) (fun j hj => h1 j (by omega)))], rfl⟩
    | succ k ih =>
      intro i hi h1
      have i1 : i < as1.length := by omega
      have i2 : i < as1'.length := by omega
      obtain ⟨q, k1, k2, k3⟩ := (hE.2 i i1).use hI
      obtain ⟨q', k1', k2', k3'⟩ := (hE'.2 i i2).use hI
      refine xr_iload_n C d_Ma_hasSessionsOf_21 22 rfl rfl ?_
      refine xr_aload_n C d_Ma_hasSessionsOf_22 23 rfl rfl ?_
      refine xr_get C K_Ma 0 d_Ma_hasSessionsOf_23 26 rfl q_88 (Or.inl rfl) rfl (by first | assumption | exact xup_self | exact (xup_ne (by assumption)).trans (by assumption) | exact (xup_ne (Ne.symm (by assumption))).trans (by assumption) | exact (xup_ne (by assumption)).trans xup_self | exact (xup_ne (Ne.symm (by assumption))).trans xup_self) rfl ?_
      refine xr_callV C (l_size hL) k_AL_size d_Ma_hasSessionsOf_26 29 rfl (by first | assumption | exact xup_self | exact (xup_ne (by assumption)).trans (by assumption) | exact (xup_ne (Ne.symm (by assumption))).trans (by assumption) | exact (xup_ne (by assumption)).trans xup_self | exact (xup_ne (Ne.symm (by assumption))).trans xup_self) rfl (Or.inl q_270) v_AL_size e_AL_size h_AL_size rfl ⟨Nat.le_of_ble_eq_true rfl, Nat.le_of_ble_eq_true rfl, Nat.le_of_ble_eq_true rfl⟩ (by omega) (by omega) (fun v9 X hP => ?_) (fun _ _ h => absurd h.1 (by simp))
      obtain ⟨h1, rfl⟩ := hP
      cases h1
      refine xr_icmp_ge C d_Ma_hasSessionsOf_29 32 68 rfl (by decide) (fun h => absurd h (nI_ge i1 (by omega))) (fun _ => ?_)
      refine xr_aload_n C d_Ma_hasSessionsOf_32 33 rfl rfl ?_
      refine xr_get C K_Ma 0 d_Ma_hasSessionsOf_33 36 rfl q_88 (Or.inl rfl) rfl (by first | assumption | exact xup_self | exact (xup_ne (by assumption)).trans (by assumption) | exact (xup_ne (Ne.symm (by assumption))).trans (by assumption) | exact (xup_ne (by assumption)).trans xup_self | exact (xup_ne (Ne.symm (by assumption))).trans xup_self) rfl ?_
      refine xr_iload_n C d_Ma_hasSessionsOf_36 37 rfl rfl ?_
      refine xr_callV C (l_get hL i1) k_AL_get d_Ma_hasSessionsOf_37 40 rfl (by first | assumption | exact xup_self | exact (xup_ne (by assumption)).trans (by assumption) | exact (xup_ne (Ne.symm (by assumption))).trans (by assumption) | exact (xup_ne (by assumption)).trans xup_self | exact (xup_ne (Ne.symm (by assumption))).trans xup_self) rfl (Or.inl q_278) v_AL_get e_AL_get h_AL_get rfl ⟨Nat.le_of_ble_eq_true rfl, Nat.le_of_ble_eq_true rfl, Nat.le_of_ble_eq_true rfl⟩ (by omega) (by omega) (fun v9 X hP => ?_) (fun _ _ h => absurd h.1 (by simp))
      obtain ⟨h1, rfl⟩ := hP
      cases h1
      refine xr_cast C d_Ma_hasSessionsOf_40 43 rfl k1 rfl q_292 ?_
      refine xr_aload_n C d_Ma_hasSessionsOf_43 44 rfl rfl ?_
      refine xr_get C K_Ma 0 d_Ma_hasSessionsOf_44 47 rfl q_88 (Or.inl rfl) rfl (by first | assumption | exact xup_self | exact (xup_ne (by assumption)).trans (by assumption) | exact (xup_ne (Ne.symm (by assumption))).trans (by assumption) | exact (xup_ne (by assumption)).trans xup_self | exact (xup_ne (Ne.symm (by assumption))).trans xup_self) rfl ?_
      refine xr_iload_n C d_Ma_hasSessionsOf_47 48 rfl rfl ?_
      refine xr_callV C (l_get hL' i2) k_AL_get d_Ma_hasSessionsOf_48 51 rfl (by first | assumption | exact xup_self | exact (xup_ne (by assumption)).trans (by assumption) | exact (xup_ne (Ne.symm (by assumption))).trans (by assumption) | exact (xup_ne (by assumption)).trans xup_self | exact (xup_ne (Ne.symm (by assumption))).trans xup_self) rfl (Or.inl q_278) v_AL_get e_AL_get h_AL_get rfl ⟨Nat.le_of_ble_eq_true rfl, Nat.le_of_ble_eq_true rfl, Nat.le_of_ble_eq_true rfl⟩ (by omega) (by omega) (fun v9 X hP => ?_) (fun _ _ h => absurd h.1 (by simp))
      obtain ⟨h1, rfl⟩ := hP
      cases h1
      refine xr_cast C d_Ma_hasSessionsOf_51 54 rfl k1' rfl q_292 ?_
      refine xr_callV C (c_Se_isLike hI (hE.2 i i1) (hE'.2 i i2)) k_Se_isLike d_Ma_hasSessionsOf_54 57 rfl k1 rfl (Or.inl q_852) v_Se_isLike e_Se_isLike h_Se_isLike rfl ⟨Nat.le_of_ble_eq_true rfl, Nat.le_of_ble_eq_true rfl, Nat.le_of_ble_eq_true rfl⟩ (by omega) (by omega) (fun v9 X hP => ?_) (fun _ _ h => absurd h.1 (by simp))
      obtain ⟨h1, rfl⟩ := hP
      cases h1
      by_cases hc : sD ss i = sD ss' i
      · refine xr_toi (if_pos hc) ?_
        refine xr_if_ne C d_Ma_hasSessionsOf_57 60 62 rfl (by decide) (fun _ => ?_) (fun h => absurd h (by decide))
        refine xr_iinc (v := 1) C d_Ma_hasSessionsOf_62 65 rfl rfl rfl rfl (by decide) ?_
        refine xr_goto C d_Ma_hasSessionsOf_65 21 (by decide) ?_
        refine xG.eqL (show _ = [some (Value.ref a), some (Value.ref a'), some (Value.int (nI (i + 1)))] by rw [← nI_one]; rfl) ?_
        refine ih (i + 1) (by omega) (fun j hj => ?_)
        by_cases e : j = i
        · rw [e]
          exact hc
        · exact h1 j (by omega)
      · refine xr_toi (if_neg hc) ?_
        refine xr_if_ne C d_Ma_hasSessionsOf_57 60 62 rfl (by decide) (fun h => absurd rfl h) (fun _ => no 60 (Or.inr rfl) (fun e => hc (by rw [e])) _)
  refine xr_iconst (v := 0) C d_Ma_hasSessionsOf_19 20 rfl (by decide) ?_
  refine xr_istore_n C d_Ma_hasSessionsOf_20 21 rfl rfl rfl ?_
  exact loop ss.length 0 (by omega) (fun j hj => absurd hj (Nat.not_lt_zero _))
set_option maxRecDepth 100000 in
set_option maxHeartbeats 4000000 in
theorem c_Ma_hasEntriesOf {l : Launch} {D : va_G} {H0 : Heap} {X : xH} {a ls bs cs mp la be ce : Nat} {as1 as2 : List Nat} {ss : List Ss} {es : List Es} {g : Int32} {a' ls' bs' cs' mp' la' be' ce' : Nat} {as1' as2' : List Nat} {ss' : List Ss} {es' : List Es} {g' : Int32} {I : Nat → Option Imm} (hI : xIm D X I) (hA : xMac D X I a ls bs cs mp la be ce as1 as2 ss es g) (hB : xMac D X I a' ls' bs' cs' mp' la' be' ce' as1' as2' ss' es' g') : xMet l D H0 y_Ma_hasEntriesOf b_Ma_hasEntriesOf 3 (some .boolean) [] 3 0 0 [.ref a, .ref a'] X (fun o X' => o = .inl (some ((.int (if es = es' then 1 else 0)))) ∧ X' = X) := by
  obtain ⟨ha, hL, hE, hok, hM, hll, hbb⟩ := id hA
  obtain ⟨vl, hl⟩ := hL.ob
  have hlen := hE.1
  have hle := hL.len
  have hok1 := hok.1
  obtain ⟨ha', hL', hE', hok', hM', hll', hbb'⟩ := id hB
  obtain ⟨vl', hl'⟩ := hL'.ob
  have hlen' := hE'.1
  have hle' := hL'.len
  obtain ⟨hmp, hK, hF, hokm⟩ := id hM
  obtain ⟨vk, hk⟩ := hK.ob
  have hkl := hK.len
  have hkn := hF.1
  obtain ⟨hmp', hK', hF', hokm'⟩ := id hM'
  obtain ⟨vk', hk'⟩ := hK'.ob
  have hkl' := hK'.len
  have hkn' := hF'.1
  refine ⟨[some (.ref a), some (.ref a'), none], rfl, Nat.le_of_ble_eq_true rfl, fun E hD hH hl _ C => ?_⟩
  subst hD
  subst hH
  subst hl
  have no : ∀ pc, (pc = 23 ∨ pc = 75) → es ≠ es' → ∀ w, xG E X 0 0 pc [some (.ref a), some (.ref a'), w] [] := by
    intro pc hpc h w
    rcases hpc with e | e
    · subst e
      refine xr_iconst (v := 0) C d_Ma_hasEntriesOf_23 24 rfl (by decide) ?_
      exact xr_zret C d_Ma_hasEntriesOf_24 rfl (by omega) (by omega) ⟨by rw [if_neg h], rfl⟩
    · subst e
      refine xr_iconst (v := 0) C d_Ma_hasEntriesOf_75 76 rfl (by decide) ?_
      exact xr_zret C d_Ma_hasEntriesOf_76 rfl (by omega) (by omega) ⟨by rw [if_neg h], rfl⟩
  refine xr_aload_n C d_Ma_hasEntriesOf_0 1 rfl rfl ?_
  refine xr_get C K_Ma 1 d_Ma_hasEntriesOf_1 4 rfl q_90 (Or.inl rfl) rfl (by first | assumption | exact xup_self | exact (xup_ne (by assumption)).trans (by assumption) | exact (xup_ne (Ne.symm (by assumption))).trans (by assumption) | exact (xup_ne (by assumption)).trans xup_self | exact (xup_ne (Ne.symm (by assumption))).trans xup_self) rfl ?_
  refine xr_get C K_KM 0 d_Ma_hasEntriesOf_4 7 rfl q_78 (Or.inl rfl) rfl (by first | assumption | exact xup_self | exact (xup_ne (by assumption)).trans (by assumption) | exact (xup_ne (Ne.symm (by assumption))).trans (by assumption) | exact (xup_ne (by assumption)).trans xup_self | exact (xup_ne (Ne.symm (by assumption))).trans xup_self) rfl ?_
  refine xr_callV C (l_size hK) k_AL_size d_Ma_hasEntriesOf_7 10 rfl (by first | assumption | exact xup_self | exact (xup_ne (by assumption)).trans (by assumption) | exact (xup_ne (Ne.symm (by assumption))).trans (by assumption) | exact (xup_ne (by assumption)).trans xup_self | exact (xup_ne (Ne.symm (by assumption))).trans xup_self) rfl (Or.inl q_270) v_AL_size e_AL_size h_AL_size rfl ⟨Nat.le_of_ble_eq_true rfl, Nat.le_of_ble_eq_true rfl, Nat.le_of_ble_eq_true rfl⟩ (by omega) (by omega) (fun v9 X hP => ?_) (fun _ _ h => absurd h.1 (by simp))
  obtain ⟨h1, rfl⟩ := hP
  cases h1
  refine xr_aload_n C d_Ma_hasEntriesOf_10 11 rfl rfl ?_
  refine xr_get C K_Ma 1 d_Ma_hasEntriesOf_11 14 rfl q_90 (Or.inl rfl) rfl (by first | assumption | exact xup_self | exact (xup_ne (by assumption)).trans (by assumption) | exact (xup_ne (Ne.symm (by assumption))).trans (by assumption) | exact (xup_ne (by assumption)).trans xup_self | exact (xup_ne (Ne.symm (by assumption))).trans xup_self) rfl ?_
  refine xr_get C K_KM 0 d_Ma_hasEntriesOf_14 17 rfl q_78 (Or.inl rfl) rfl (by first | assumption | exact xup_self | exact (xup_ne (by assumption)).trans (by assumption) | exact (xup_ne (Ne.symm (by assumption))).trans (by assumption) | exact (xup_ne (by assumption)).trans xup_self | exact (xup_ne (Ne.symm (by assumption))).trans xup_self) rfl ?_
  refine xr_callV C (l_size hK') k_AL_size d_Ma_hasEntriesOf_17 20 rfl (by first | assumption | exact xup_self | exact (xup_ne (by assumption)).trans (by assumption) | exact (xup_ne (Ne.symm (by assumption))).trans (by assumption) | exact (xup_ne (by assumption)).trans xup_self | exact (xup_ne (Ne.symm (by assumption))).trans xup_self) rfl (Or.inl q_270) v_AL_size e_AL_size h_AL_size rfl ⟨Nat.le_of_ble_eq_true rfl, Nat.le_of_ble_eq_true rfl, Nat.le_of_ble_eq_true rfl⟩ (by omega) (by omega) (fun v9 X hP => ?_) (fun _ _ h => absurd h.1 (by simp))
  obtain ⟨h1, rfl⟩ := hP
  cases h1
  refine xr_icmp_eq C d_Ma_hasEntriesOf_20 23 25 rfl (by decide) (fun h14 => ?_) (fun h14 => no 23 (Or.inl rfl) (fun e => h14 (by rw [hkn, hkn', e])) _)
  have hll2 : as2.length = as2'.length := (nI_eq (by omega) (by omega)).mp h14
  have loop : ∀ (k i : Nat), i + k = es.length → (∀ j, j < i → eD es j = eD es' j) → xG E X 0 0 27 [some (.ref a), some (.ref a'), some (.int (nI i))] [] := by
    intro k
    induction k with
    | zero =>
      intro i hi h1
      refine xr_iload_n C d_Ma_hasEntriesOf_27 28 rfl rfl ?_
      refine xr_aload_n C d_Ma_hasEntriesOf_28 29 rfl rfl ?_
      refine xr_get C K_Ma 1 d_Ma_hasEntriesOf_29 32 rfl q_90 (Or.inl rfl) rfl (by first | assumption | exact xup_self | exact (xup_ne (by assumption)).trans (by assumption) | exact (xup_ne (Ne.symm (by assumption))).trans (by assumption) | exact (xup_ne (by assumption)).trans xup_self | exact (xup_ne (Ne.symm (by assumption))).trans xup_self) rfl ?_
      refine xr_get C K_KM 0 d_Ma_hasEntriesOf_32 35 rfl q_78 (Or.inl rfl) rfl (by first | assumption | exact xup_self | exact (xup_ne (by assumption)).trans (by assumption) | exact (xup_ne (Ne.symm (by assumption))).trans (by assumption) | exact (xup_ne (by assumption)).trans xup_self | exact (xup_ne (Ne.symm (by assumption))).trans xup_self) rfl ?_
      refine xr_callV C (l_size hK) k_AL_size d_Ma_hasEntriesOf_35 38 rfl (by first | assumption | exact xup_self | exact (xup_ne (by assumption)).trans (by assumption) | exact (xup_ne (Ne.symm (by assumption))).trans (by assumption) | exact (xup_ne (by assumption)).trans xup_self | exact (xup_ne (Ne.symm (by assumption))).trans xup_self) rfl (Or.inl q_270) v_AL_size e_AL_size h_AL_size rfl ⟨Nat.le_of_ble_eq_true rfl, Nat.le_of_ble_eq_true rfl, Nat.le_of_ble_eq_true rfl⟩ (by omega) (by omega) (fun v9 X hP => ?_) (fun _ _ h => absurd h.1 (by simp))
      obtain ⟨h1, rfl⟩ := hP
      cases h1
      refine xr_icmp_ge C d_Ma_hasEntriesOf_38 41 83 rfl (by decide) (fun _ => ?_) (fun h => absurd (nI_le (show as2.length ≤ i by omega) (by omega)) h)
      refine xr_iconst (v := 1) C d_Ma_hasEntriesOf_83 84 rfl (by decide) ?_
      exact xr_zret C d_Ma_hasEntriesOf_84 rfl (by omega) (by omega) ⟨by rw [if_pos (es_ext (by omega) (fun j hj => h1 j (by omega)))], rfl⟩
    | succ k ih =>
      intro i hi h1
      have i1 : i < as2.length := by omega
      have i2 : i < as2'.length := by omega
      obtain ⟨p, q, k1, k2, k3, -⟩ := (hF.2 i i1).use hI
      obtain ⟨p', q', k1', k2', k3', -⟩ := (hF'.2 i i2).use hI
      refine xr_iload_n C d_Ma_hasEntriesOf_27 28 rfl rfl ?_
      refine xr_aload_n C d_Ma_hasEntriesOf_28 29 rfl rfl ?_
      refine xr_get C K_Ma 1 d_Ma_hasEntriesOf_29 32 rfl q_90 (Or.inl rfl) rfl (by first | assumption | exact xup_self | exact (xup_ne (by assumption)).trans (by assumption) | exact (xup_ne (Ne.symm (by assumption))).trans (by assumption) | exact (xup_ne (by assumption)).trans xup_self | exact (xup_ne (Ne.symm (by assumption))).trans xup_self) rfl ?_
      refine xr_get C K_KM 0 d_Ma_hasEntriesOf_32 35 rfl q_78 (Or.inl rfl) rfl (by first | assumption | exact xup_self | exact (xup_ne (by assumption)).trans (by assumption) | exact (xup_ne (Ne.symm (by assumption))).trans (by assumption) | exact (xup_ne (by assumption)).trans xup_self | exact (xup_ne (Ne.symm (by assumption))).trans xup_self) rfl ?_
      refine xr_callV C (l_size hK) k_AL_size d_Ma_hasEntriesOf_35 38 rfl (by first | assumption | exact xup_self | exact (xup_ne (by assumption)).trans (by assumption) | exact (xup_ne (Ne.symm (by assumption))).trans (by assumption) | exact (xup_ne (by assumption)).trans xup_self | exact (xup_ne (Ne.symm (by assumption))).trans xup_self) rfl (Or.inl q_270) v_AL_size e_AL_size h_AL_size rfl ⟨Nat.le_of_ble_eq_true rfl, Nat.le_of_ble_eq_true rfl, Nat.le_of_ble_eq_true rfl⟩ (by omega) (by omega) (fun v9 X hP => ?_) (fun _ _ h => absurd h.1 (by simp))
      obtain ⟨h1, rfl⟩ := hP
      cases h1
      refine xr_icmp_ge C d_Ma_hasEntriesOf_38 41 83 rfl (by decide) (fun h => absurd h (nI_ge i1 (by omega))) (fun _ => ?_)
      refine xr_aload_n C d_Ma_hasEntriesOf_41 42 rfl rfl ?_
      refine xr_get C K_Ma 1 d_Ma_hasEntriesOf_42 45 rfl q_90 (Or.inl rfl) rfl (by first | assumption | exact xup_self | exact (xup_ne (by assumption)).trans (by assumption) | exact (xup_ne (Ne.symm (by assumption))).trans (by assumption) | exact (xup_ne (by assumption)).trans xup_self | exact (xup_ne (Ne.symm (by assumption))).trans xup_self) rfl ?_
      refine xr_get C K_KM 0 d_Ma_hasEntriesOf_45 48 rfl q_78 (Or.inl rfl) rfl (by first | assumption | exact xup_self | exact (xup_ne (by assumption)).trans (by assumption) | exact (xup_ne (Ne.symm (by assumption))).trans (by assumption) | exact (xup_ne (by assumption)).trans xup_self | exact (xup_ne (Ne.symm (by assumption))).trans xup_self) rfl ?_
      refine xr_iload_n C d_Ma_hasEntriesOf_48 49 rfl rfl ?_
      refine xr_callV C (l_get hK i1) k_AL_get d_Ma_hasEntriesOf_49 52 rfl (by first | assumption | exact xup_self | exact (xup_ne (by assumption)).trans (by assumption) | exact (xup_ne (Ne.symm (by assumption))).trans (by assumption) | exact (xup_ne (by assumption)).trans xup_self | exact (xup_ne (Ne.symm (by assumption))).trans xup_self) rfl (Or.inl q_278) v_AL_get e_AL_get h_AL_get rfl ⟨Nat.le_of_ble_eq_true rfl, Nat.le_of_ble_eq_true rfl, Nat.le_of_ble_eq_true rfl⟩ (by omega) (by omega) (fun v9 X hP => ?_) (fun _ _ h => absurd h.1 (by simp))
      obtain ⟨h1, rfl⟩ := hP
      cases h1
      refine xr_cast C d_Ma_hasEntriesOf_52 55 rfl k1 rfl q_830 ?_
      refine xr_aload_n C d_Ma_hasEntriesOf_55 56 rfl rfl ?_
      refine xr_get C K_Ma 1 d_Ma_hasEntriesOf_56 59 rfl q_90 (Or.inl rfl) rfl (by first | assumption | exact xup_self | exact (xup_ne (by assumption)).trans (by assumption) | exact (xup_ne (Ne.symm (by assumption))).trans (by assumption) | exact (xup_ne (by assumption)).trans xup_self | exact (xup_ne (Ne.symm (by assumption))).trans xup_self) rfl ?_
      refine xr_get C K_KM 0 d_Ma_hasEntriesOf_59 62 rfl q_78 (Or.inl rfl) rfl (by first | assumption | exact xup_self | exact (xup_ne (by assumption)).trans (by assumption) | exact (xup_ne (Ne.symm (by assumption))).trans (by assumption) | exact (xup_ne (by assumption)).trans xup_self | exact (xup_ne (Ne.symm (by assumption))).trans xup_self) rfl ?_
      refine xr_iload_n C d_Ma_hasEntriesOf_62 63 rfl rfl ?_
      refine xr_callV C (l_get hK' i2) k_AL_get d_Ma_hasEntriesOf_63 66 rfl (by first | assumption | exact xup_self | exact (xup_ne (by assumption)).trans (by assumption) | exact (xup_ne (Ne.symm (by assumption))).trans (by assumption) | exact (xup_ne (by assumption)).trans xup_self | exact (xup_ne (Ne.symm (by assumption))).trans xup_self) rfl (Or.inl q_278) v_AL_get e_AL_get h_AL_get rfl ⟨Nat.le_of_ble_eq_true rfl, Nat.le_of_ble_eq_true rfl, Nat.le_of_ble_eq_true rfl⟩ (by omega) (by omega) (fun v9 X hP => ?_) (fun _ _ h => absurd h.1 (by simp))
      obtain ⟨h1, rfl⟩ := hP
      cases h1
      refine xr_cast C d_Ma_hasEntriesOf_66 69 rfl k1' rfl q_830 ?_
      refine xr_callV C (c_En_isLike hI (hF.2 i i1) (hF'.2 i i2)) k_En_isLike d_Ma_hasEntriesOf_69 72 rfl k1 rfl (Or.inl q_861) v_En_isLike e_En_isLike h_En_isLike rfl ⟨Nat.le_of_ble_eq_true rfl, Nat.le_of_ble_eq_true rfl, Nat.le_of_ble_eq_true rfl⟩ (by omega) (by omega) (fun v9 X hP => ?_) (fun _ _ h => absurd h.1 (by simp))
      obtain ⟨h1, rfl⟩ := hP
      cases h1
      by_cases hc : eD es i = eD es' i
      · refine xr_toi (if_pos hc) ?_
        refine xr_if_ne C d_Ma_hasEntriesOf_72 75 77 rfl (by decide) (fun _ => ?_) (fun h => absurd h (by decide))
        refine xr_iinc (v := 1) C d_Ma_hasEntriesOf_77 80 rfl rfl rfl rfl (by decide) ?_
        refine xr_goto C d_Ma_hasEntriesOf_80 27 (by decide) ?_
        refine xG.eqL (show _ = [some (Value.ref a), some (Value.ref a'), some (Value.int (nI (i + 1)))] by rw [← nI_one]; rfl) ?_
        refine ih (i + 1) (by omega) (fun j hj => ?_)
        by_cases e : j = i
        · rw [e]
          exact hc
        · exact h1 j (by omega)
      · refine xr_toi (if_neg hc) ?_
        refine xr_if_ne C d_Ma_hasEntriesOf_72 75 77 rfl (by decide) (fun h => absurd rfl h) (fun _ => no 75 (Or.inr rfl) (fun e => hc (by rw [e])) _)
  refine xr_iconst (v := 0) C d_Ma_hasEntriesOf_25 26 rfl (by decide) ?_
  refine xr_istore_n C d_Ma_hasEntriesOf_26 27 rfl rfl rfl ?_
  exact loop es.length 0 (by omega) (fun j hj => absurd hj (Nat.not_lt_zero _))
set_option maxRecDepth 100000 in
set_option maxHeartbeats 4000000 in
theorem c_Ma_hasRowOf {l : Launch} {D : va_G} {H0 : Heap} {X : xH} {a ls bs cs mp la be ce : Nat} {as1 as2 : List Nat} {ss : List Ss} {es : List Es} {g : Int32} {a' ls' bs' cs' mp' la' be' ce' : Nat} {as1' as2' : List Nat} {ss' : List Ss} {es' : List Es} {g' : Int32} {I : Nat → Option Imm} (hI : xIm D X I) (hA : xMac D X I a ls bs cs mp la be ce as1 as2 ss es g) (hB : xMac D X I a' ls' bs' cs' mp' la' be' ce' as1' as2' ss' es' g') : xMet l D H0 y_Ma_hasRowOf b_Ma_hasRowOf 2 (some .boolean) [] 4 0 0 [.ref a, .ref a'] X (fun o X' => o = .inl (some ((.int (if ss = ss' ∧ es = es' then 1 else 0)))) ∧ X' = X) := by
  have ha := hA.1
  have ha' := hB.1
  refine ⟨[some (.ref a), some (.ref a')], rfl, Nat.le_of_ble_eq_true rfl, fun E hD hH hl _ C => ?_⟩
  subst hD
  subst hH
  subst hl
  have no : ¬ (ss = ss' ∧ es = es') → xG E X 0 0 20 [some (.ref a), some (.ref a')] [] := by
    intro h
    refine xr_iconst (v := 0) C d_Ma_hasRowOf_20 21 rfl (by decide) ?_
    exact xr_zret C d_Ma_hasRowOf_21 rfl (by omega) (by omega) ⟨by rw [if_neg h], rfl⟩
  refine xr_aload_n C d_Ma_hasRowOf_0 1 rfl rfl ?_
  refine xr_aload_n C d_Ma_hasRowOf_1 2 rfl rfl ?_
  refine xr_callV C (c_Ma_hasSessionsOf hI hA hB) k_Ma_hasSessionsOf d_Ma_hasRowOf_2 5 rfl (by first | assumption | exact xup_self | exact (xup_ne (by assumption)).trans (by assumption) | exact (xup_ne (Ne.symm (by assumption))).trans (by assumption) | exact (xup_ne (by assumption)).trans xup_self | exact (xup_ne (Ne.symm (by assumption))).trans xup_self) rfl (Or.inl q_848) v_Ma_hasSessionsOf e_Ma_hasSessionsOf h_Ma_hasSessionsOf rfl ⟨Nat.le_of_ble_eq_true rfl, Nat.le_of_ble_eq_true rfl, Nat.le_of_ble_eq_true rfl⟩ (by omega) (by omega) (fun v9 X hP => ?_) (fun _ _ h => absurd h.1 (by simp))
  obtain ⟨h1, rfl⟩ := hP
  cases h1
  by_cases h1 : ss = ss'
  · refine xr_toi (if_pos h1) ?_
    refine xr_if_eq C d_Ma_hasRowOf_5 8 20 rfl (by decide) (fun h => absurd h (by decide)) (fun _ => ?_)
    refine xr_aload_n C d_Ma_hasRowOf_8 9 rfl rfl ?_
    refine xr_aload_n C d_Ma_hasRowOf_9 10 rfl rfl ?_
    refine xr_callV C (c_Ma_hasEntriesOf hI hA hB) k_Ma_hasEntriesOf d_Ma_hasRowOf_10 13 rfl (by first | assumption | exact xup_self | exact (xup_ne (by assumption)).trans (by assumption) | exact (xup_ne (Ne.symm (by assumption))).trans (by assumption) | exact (xup_ne (by assumption)).trans xup_self | exact (xup_ne (Ne.symm (by assumption))).trans xup_self) rfl (Or.inl q_857) v_Ma_hasEntriesOf e_Ma_hasEntriesOf h_Ma_hasEntriesOf rfl ⟨Nat.le_of_ble_eq_true rfl, Nat.le_of_ble_eq_true rfl, Nat.le_of_ble_eq_true rfl⟩ (by omega) (by omega) (fun v9 X hP => ?_) (fun _ _ h => absurd h.1 (by simp))
    obtain ⟨h1, rfl⟩ := hP
    cases h1
    by_cases h2 : es = es'
    · refine xr_toi (if_pos h2) ?_
      refine xr_if_eq C d_Ma_hasRowOf_13 16 20 rfl (by decide) (fun h => absurd h (by decide)) (fun _ => ?_)
      refine xr_iconst (v := 1) C d_Ma_hasRowOf_16 17 rfl (by decide) ?_
      refine xr_goto C d_Ma_hasRowOf_17 21 (by decide) ?_
      exact xr_zret C d_Ma_hasRowOf_21 rfl (by omega) (by omega) ⟨by rw [if_pos ⟨h1, h2⟩], rfl⟩
    · refine xr_toi (if_neg h2) ?_
      refine xr_if_eq C d_Ma_hasRowOf_13 16 20 rfl (by decide) (fun _ => no (fun q => h2 q.2)) (fun h => absurd rfl h)
  · refine xr_toi (if_neg h1) ?_
    refine xr_if_eq C d_Ma_hasRowOf_5 8 20 rfl (by decide) (fun _ => no (fun q => h1 q.1)) (fun h => absurd rfl h)
set_option maxRecDepth 100000 in
set_option maxHeartbeats 4000000 in
theorem c_Ma_rowBytes {l : Launch} {D : va_G} {H0 : Heap} {X : xH} {a ls bs cs mp la be ce : Nat} {as1 as2 : List Nat} {ss : List Ss} {es : List Es} {g : Int32} {I : Nat → Option Imm} (hI : xIm D X I) (hA : xMac D X I a ls bs cs mp la be ce as1 as2 ss es g) : xMet l D H0 y_Ma_rowBytes b_Ma_rowBytes 3 (some .int) [] 3 0 0 [.ref a] X (fun o X' => o = .inl (some (.int (nI (8 + rbS ss + rbE es)))) ∧ X' = X) := by
  obtain ⟨ha, hL, hE, hok, hM, hll, hbb⟩ := id hA
  obtain ⟨vl, hl⟩ := hL.ob
  have hlen := hE.1
  have hle := hL.len
  have hok1 := hok.1
  obtain ⟨hmp, hK, hF, hokm⟩ := id hM
  obtain ⟨vk, hk⟩ := hK.ob
  have hkl := hK.len
  have hkn := hF.1
  refine ⟨[some (.ref a), none, none], rfl, Nat.le_of_ble_eq_true rfl, fun E hD hH hl _ C => ?_⟩
  subst hD
  subst hH
  subst hl
  have loop2 : ∀ (k i : Nat), i + k = es.length → xG E X 0 0 41 [some (.ref a), some (.int (nI (8 + rbS ss + rbE (es.take i)))), some (.int (nI i))] [] := by
    intro k
    induction k with
    | zero =>
      intro i hi
      refine xr_iload_n C d_Ma_rowBytes_41 42 rfl rfl ?_
      refine xr_aload_n C d_Ma_rowBytes_42 43 rfl rfl ?_
      refine xr_get C K_Ma 1 d_Ma_rowBytes_43 46 rfl q_90 (Or.inl rfl) rfl (by first | assumption | exact xup_self | exact (xup_ne (by assumption)).trans (by assumption) | exact (xup_ne (Ne.symm (by assumption))).trans (by assumption) | exact (xup_ne (by assumption)).trans xup_self | exact (xup_ne (Ne.symm (by assumption))).trans xup_self) rfl ?_
      refine xr_get C K_KM 0 d_Ma_rowBytes_46 49 rfl q_78 (Or.inl rfl) rfl (by first | assumption | exact xup_self | exact (xup_ne (by assumption)).trans (by assumption) | exact (xup_ne (Ne.symm (by assumption))).trans (by assumption) | exact (xup_ne (by assumption)).trans xup_self | exact (xup_ne (Ne.symm (by assumption))).trans xup_self) rfl ?_
      refine xr_callV C (l_size hK) k_AL_size d_Ma_rowBytes_49 52 rfl (by first | assumption | exact xup_self | exact (xup_ne (by assumption)).trans (by assumption) | exact (xup_ne (Ne.symm (by assumption))).trans (by assumption) | exact (xup_ne (by assumption)).trans xup_self | exact (xup_ne (Ne.symm (by assumption))).trans xup_self) rfl (Or.inl q_270) v_AL_size e_AL_size h_AL_size rfl ⟨Nat.le_of_ble_eq_true rfl, Nat.le_of_ble_eq_true rfl, Nat.le_of_ble_eq_true rfl⟩ (by omega) (by omega) (fun v9 X hP => ?_) (fun _ _ h => absurd h.1 (by simp))
      obtain ⟨h1, rfl⟩ := hP
      cases h1
      refine xr_icmp_ge C d_Ma_rowBytes_52 55 81 rfl (by decide) (fun _ => ?_) (fun h => absurd (nI_le (show as2.length ≤ i by omega) (by omega)) h)
      refine xr_iload_n C d_Ma_rowBytes_81 82 rfl rfl ?_
      exact xr_iret C d_Ma_rowBytes_82 (by omega) (by omega) ⟨by rw [List.take_of_length_le (show es.length ≤ i by omega)], rfl⟩
    | succ k ih =>
      intro i hi
      have i1 : i < as2.length := by omega
      obtain ⟨p, q, k1, k2, k3, -⟩ := (hF.2 i i1).use hI
      refine xr_iload_n C d_Ma_rowBytes_41 42 rfl rfl ?_
      refine xr_aload_n C d_Ma_rowBytes_42 43 rfl rfl ?_
      refine xr_get C K_Ma 1 d_Ma_rowBytes_43 46 rfl q_90 (Or.inl rfl) rfl (by first | assumption | exact xup_self | exact (xup_ne (by assumption)).trans (by assumption) | exact (xup_ne (Ne.symm (by assumption))).trans (by assumption) | exact (xup_ne (by assumption)).trans xup_self | exact (xup_ne (Ne.symm (by assumption))).trans xup_self) rfl ?_
      refine xr_get C K_KM 0 d_Ma_rowBytes_46 49 rfl q_78 (Or.inl rfl) rfl (by first | assumption | exact xup_self | exact (xup_ne (by assumption)).trans (by assumption) | exact (xup_ne (Ne.symm (by assumption))).trans (by assumption) | exact (xup_ne (by assumption)).trans xup_self | exact (xup_ne (Ne.symm (by assumption))).trans xup_self) rfl ?_
      refine xr_callV C (l_size hK) k_AL_size d_Ma_rowBytes_49 52 rfl (by first | assumption | exact xup_self | exact (xup_ne (by assumption)).trans (by assumption) | exact (xup_ne (Ne.symm (by assumption))).trans (by assumption) | exact (xup_ne (by assumption)).trans xup_self | exact (xup_ne (Ne.symm (by assumption))).trans xup_self) rfl (Or.inl q_270) v_AL_size e_AL_size h_AL_size rfl ⟨Nat.le_of_ble_eq_true rfl, Nat.le_of_ble_eq_true rfl, Nat.le_of_ble_eq_true rfl⟩ (by omega) (by omega) (fun v9 X hP => ?_) (fun _ _ h => absurd h.1 (by simp))
      obtain ⟨h1, rfl⟩ := hP
      cases h1
      refine xr_icmp_ge C d_Ma_rowBytes_52 55 81 rfl (by decide) (fun h => absurd h (nI_ge i1 (by omega))) (fun _ => ?_)
      refine xr_iload_n C d_Ma_rowBytes_55 56 rfl rfl ?_
      refine xr_aload_n C d_Ma_rowBytes_56 57 rfl rfl ?_
      refine xr_get C K_Ma 1 d_Ma_rowBytes_57 60 rfl q_90 (Or.inl rfl) rfl (by first | assumption | exact xup_self | exact (xup_ne (by assumption)).trans (by assumption) | exact (xup_ne (Ne.symm (by assumption))).trans (by assumption) | exact (xup_ne (by assumption)).trans xup_self | exact (xup_ne (Ne.symm (by assumption))).trans xup_self) rfl ?_
      refine xr_get C K_KM 0 d_Ma_rowBytes_60 63 rfl q_78 (Or.inl rfl) rfl (by first | assumption | exact xup_self | exact (xup_ne (by assumption)).trans (by assumption) | exact (xup_ne (Ne.symm (by assumption))).trans (by assumption) | exact (xup_ne (by assumption)).trans xup_self | exact (xup_ne (Ne.symm (by assumption))).trans xup_self) rfl ?_
      refine xr_iload_n C d_Ma_rowBytes_63 64 rfl rfl ?_
      refine xr_callV C (l_get hK i1) k_AL_get d_Ma_rowBytes_64 67 rfl (by first | assumption | exact xup_self | exact (xup_ne (by assumption)).trans (by assumption) | exact (xup_ne (Ne.symm (by assumption))).trans (by assumption) | exact (xup_ne (by assumption)).trans xup_self | exact (xup_ne (Ne.symm (by assumption))).trans xup_self) rfl (Or.inl q_278) v_AL_get e_AL_get h_AL_get rfl ⟨Nat.le_of_ble_eq_true rfl, Nat.le_of_ble_eq_true rfl, Nat.le_of_ble_eq_true rfl⟩ (by omega) (by omega) (fun v9 X hP => ?_) (fun _ _ h => absurd h.1 (by simp))
      obtain ⟨h1, rfl⟩ := hP
      cases h1
      refine xr_cast C d_Ma_rowBytes_67 70 rfl k1 rfl q_830 ?_
      refine xr_callV C (c_En_rowBytes hI (hF.2 i i1)) k_En_rowBytes d_Ma_rowBytes_70 73 rfl k1 rfl (Or.inl q_921) v_En_rowBytes e_En_rowBytes h_En_rowBytes rfl ⟨Nat.le_of_ble_eq_true rfl, Nat.le_of_ble_eq_true rfl, Nat.le_of_ble_eq_true rfl⟩ (by omega) (by omega) (fun v9 X hP => ?_) (fun _ _ h => absurd h.1 (by simp))
      obtain ⟨h1, rfl⟩ := hP
      cases h1
      refine xr_iadd C d_Ma_rowBytes_73 74 rfl ?_
      refine xr_toi (show _ = nI (8 + rbS ss + rbE (es.take (i + 1))) from (nI_add _ _).trans (by rw [rbE_take (by omega)]; congr 1; omega)) ?_
      refine xr_istore_n C d_Ma_rowBytes_74 75 rfl rfl rfl ?_
      refine xr_iinc (v := 1) C d_Ma_rowBytes_75 78 rfl rfl rfl rfl (by decide) ?_
      refine xr_goto C d_Ma_rowBytes_78 41 (by decide) ?_
      refine xG.eqL (show _ = [some (Value.ref a), some (Value.int (nI (8 + rbS ss + rbE (es.take (i + 1))))), some (Value.int (nI (i + 1)))] by rw [← nI_one i]; rfl) ?_
      exact ih (i + 1) (by omega)
  have loop1 : ∀ (k i : Nat), i + k = ss.length → xG E X 0 0 5 [some (.ref a), some (.int (nI (8 + rbS (ss.take i)))), some (.int (nI i))] [] := by
    intro k
    induction k with
    | zero =>
      intro i hi
      refine xr_iload_n C d_Ma_rowBytes_5 6 rfl rfl ?_
      refine xr_aload_n C d_Ma_rowBytes_6 7 rfl rfl ?_
      refine xr_get C K_Ma 0 d_Ma_rowBytes_7 10 rfl q_88 (Or.inl rfl) rfl (by first | assumption | exact xup_self | exact (xup_ne (by assumption)).trans (by assumption) | exact (xup_ne (Ne.symm (by assumption))).trans (by assumption) | exact (xup_ne (by assumption)).trans xup_self | exact (xup_ne (Ne.symm (by assumption))).trans xup_self) rfl ?_
      refine xr_callV C (l_size hL) k_AL_size d_Ma_rowBytes_10 13 rfl (by first | assumption | exact xup_self | exact (xup_ne (by assumption)).trans (by assumption) | exact (xup_ne (Ne.symm (by assumption))).trans (by assumption) | exact (xup_ne (by assumption)).trans xup_self | exact (xup_ne (Ne.symm (by assumption))).trans xup_self) rfl (Or.inl q_270) v_AL_size e_AL_size h_AL_size rfl ⟨Nat.le_of_ble_eq_true rfl, Nat.le_of_ble_eq_true rfl, Nat.le_of_ble_eq_true rfl⟩ (by omega) (by omega) (fun v9 X hP => ?_) (fun _ _ h => absurd h.1 (by simp))
      obtain ⟨h1, rfl⟩ := hP
      cases h1
      refine xr_icmp_ge C d_Ma_rowBytes_13 16 39 rfl (by decide) (fun _ => ?_) (fun h => absurd (nI_le (show as1.length ≤ i by omega) (by omega)) h)
      refine xr_iconst (v := 0) C d_Ma_rowBytes_39 40 rfl (by decide) ?_
      refine xr_istore_n C d_Ma_rowBytes_40 41 rfl rfl rfl ?_
      refine xG.eqL (show _ = [some (Value.ref a), some (Value.int (nI (8 + rbS ss + rbE (es.take 0)))), some (Value.int (nI 0))] by rw [List.take_of_length_le (show ss.length ≤ i by omega)]; rfl) ?_
      exact loop2 es.length 0 (by omega)
    | succ k ih =>
      intro i hi
      have i1 : i < as1.length := by omega
      obtain ⟨q, k1, k2, k3⟩ := (hE.2 i i1).use hI
      refine xr_iload_n C d_Ma_rowBytes_5 6 rfl rfl ?_
      refine xr_aload_n C d_Ma_rowBytes_6 7 rfl rfl ?_
      refine xr_get C K_Ma 0 d_Ma_rowBytes_7 10 rfl q_88 (Or.inl rfl) rfl (by first | assumption | exact xup_self | exact (xup_ne (by assumption)).trans (by assumption) | exact (xup_ne (Ne.symm (by assumption))).trans (by assumption) | exact (xup_ne (by assumption)).trans xup_self | exact (xup_ne (Ne.symm (by assumption))).trans xup_self) rfl ?_
      refine xr_callV C (l_size hL) k_AL_size d_Ma_rowBytes_10 13 rfl (by first | assumption | exact xup_self | exact (xup_ne (by assumption)).trans (by assumption) | exact (xup_ne (Ne.symm (by assumption))).trans (by assumption) | exact (xup_ne (by assumption)).trans xup_self | exact (xup_ne (Ne.symm (by assumption))).trans xup_self) rfl (Or.inl q_270) v_AL_size e_AL_size h_AL_size rfl ⟨Nat.le_of_ble_eq_true rfl, Nat.le_of_ble_eq_true rfl, Nat.le_of_ble_eq_true rfl⟩ (by omega) (by omega) (fun v9 X hP => ?_) (fun _ _ h => absurd h.1 (by simp))
      obtain ⟨h1, rfl⟩ := hP
      cases h1
      refine xr_icmp_ge C d_Ma_rowBytes_13 16 39 rfl (by decide) (fun h => absurd h (nI_ge i1 (by omega))) (fun _ => ?_)
      refine xr_iload_n C d_Ma_rowBytes_16 17 rfl rfl ?_
      refine xr_aload_n C d_Ma_rowBytes_17 18 rfl rfl ?_
      refine xr_get C K_Ma 0 d_Ma_rowBytes_18 21 rfl q_88 (Or.inl rfl) rfl (by first | assumption | exact xup_self | exact (xup_ne (by assumption)).trans (by assumption) | exact (xup_ne (Ne.symm (by assumption))).trans (by assumption) | exact (xup_ne (by assumption)).trans xup_self | exact (xup_ne (Ne.symm (by assumption))).trans xup_self) rfl ?_
      refine xr_iload_n C d_Ma_rowBytes_21 22 rfl rfl ?_
      refine xr_callV C (l_get hL i1) k_AL_get d_Ma_rowBytes_22 25 rfl (by first | assumption | exact xup_self | exact (xup_ne (by assumption)).trans (by assumption) | exact (xup_ne (Ne.symm (by assumption))).trans (by assumption) | exact (xup_ne (by assumption)).trans xup_self | exact (xup_ne (Ne.symm (by assumption))).trans xup_self) rfl (Or.inl q_278) v_AL_get e_AL_get h_AL_get rfl ⟨Nat.le_of_ble_eq_true rfl, Nat.le_of_ble_eq_true rfl, Nat.le_of_ble_eq_true rfl⟩ (by omega) (by omega) (fun v9 X hP => ?_) (fun _ _ h => absurd h.1 (by simp))
      obtain ⟨h1, rfl⟩ := hP
      cases h1
      refine xr_cast C d_Ma_rowBytes_25 28 rfl k1 rfl q_292 ?_
      refine xr_callV C (c_Se_rowBytes hI (hE.2 i i1)) k_Se_rowBytes d_Ma_rowBytes_28 31 rfl k1 rfl (Or.inl q_917) v_Se_rowBytes e_Se_rowBytes h_Se_rowBytes rfl ⟨Nat.le_of_ble_eq_true rfl, Nat.le_of_ble_eq_true rfl, Nat.le_of_ble_eq_true rfl⟩ (by omega) (by omega) (fun v9 X hP => ?_) (fun _ _ h => absurd h.1 (by simp))
      obtain ⟨h1, rfl⟩ := hP
      cases h1
      refine xr_iadd C d_Ma_rowBytes_31 32 rfl ?_
      refine xr_toi (show _ = nI (8 + rbS (ss.take (i + 1))) from (nI_add _ _).trans (by rw [rbS_take (by omega)]; congr 1; omega)) ?_
      refine xr_istore_n C d_Ma_rowBytes_32 33 rfl rfl rfl ?_
      refine xr_iinc (v := 1) C d_Ma_rowBytes_33 36 rfl rfl rfl rfl (by decide) ?_
      refine xr_goto C d_Ma_rowBytes_36 5 (by decide) ?_
      refine xG.eqL (show _ = [some (Value.ref a), some (Value.int (nI (8 + rbS (ss.take (i + 1))))), some (Value.int (nI (i + 1)))] by rw [← nI_one i]; rfl) ?_
      exact ih (i + 1) (by omega)
  refine xr_bipush (v := 8) C d_Ma_rowBytes_0 2 rfl (by decide) ?_
  refine xr_istore_n C d_Ma_rowBytes_2 3 rfl rfl rfl ?_
  refine xr_iconst (v := 0) C d_Ma_rowBytes_3 4 rfl (by decide) ?_
  refine xr_istore_n C d_Ma_rowBytes_4 5 rfl rfl rfl ?_
  exact loop1 ss.length 0 (by omega)
def telM (ss : List Ss) (es : List Es) : List Int32 := num (nI ss.length) 4 ++ telS ss ++ num (nI es.length) 4 ++ telE es
theorem telM_len {ss : List Ss} {es : List Es} : (telM ss es).length = 8 + rbS ss + rbE es := by
  unfold telM
  simp only [List.length_append, num_len, telS_len, telE_len]
  omega
/-- a row's cells are none of a machine's -/
theorem xMac.keepR {D : va_G} {X X' : xH} {I : Nat → Option Imm} {r br rc : Nat} {zs : List Int32} {a ls bs cs mp la be ce : Nat} {as1 as2 : List Nat} {ss : List Ss} {es : List Es} {g : Int32} (h : xMac D X I a ls bs cs mp la be ce as1 as2 ss es g) (hR : xRow D X r br rc zs) (hf : xFr [r, br] X X') : xMac D X' I a ls bs cs mp la be ce as1 as2 ss es g := by
  obtain ⟨ha, hL, hE, hok, hM, hll, hbb⟩ := h
  obtain ⟨vs, hl⟩ := hL.ob
  obtain ⟨f, hb⟩ := hL.ar
  obtain ⟨gg, hr⟩ := hR.arr
  refine ⟨hf.use ha ?_, hL.keep hf ?_ ?_, hE, hok, hM.keepR hR hf, hll, hbb.keep hf⟩
  · simp only [List.mem_cons, List.not_mem_nil, or_false, not_or]
    exact ⟨xne ha hR.at (by intro h; cases h), xne ha hr (by intro h; cases h)⟩
  · simp only [List.mem_cons, List.not_mem_nil, or_false, not_or]
    exact ⟨xne hl hR.at (by intro h; cases h), xne hl hr (by intro h; cases h)⟩
  · simp only [List.mem_cons, List.not_mem_nil, or_false, not_or]
    exact ⟨xne hb hR.at (by intro h; cases h), xne hb hr xkd⟩
set_option maxRecDepth 100000 in
set_option maxHeartbeats 4000000 in
theorem c_Ma_tell {l : Launch} {D : va_G} {H0 : Heap} {X : xH} {a ls bs cs mp la be ce : Nat} {as1 as2 : List Nat} {ss : List Ss} {es : List Es} {g : Int32} {I : Nat → Option Imm} (hI : xIm D X I) (hA : xMac D X I a ls bs cs mp la be ce as1 as2 ss es g) {r b cap d : Nat} (hR : xRow D X r b cap []) (hb : I b = none) (hd : isR cap (8 + rbS ss + rbE es) d) (hd2 : d ≤ 32767) : xMet l D H0 y_Ma_tell b_Ma_tell 3 none [] 4 (d - cap) (2 * (d - cap)) [.ref a, .ref r] X (fun o X' => o = .inl none ∧ xAdd D X X' r b d (telM ss es)) := by
  obtain ⟨ha, hL, hE, hok, hM, hll, hbb⟩ := id hA
  obtain ⟨vl, hl⟩ := hL.ob
  have hlen := hE.1
  have hle := hL.len
  have hok1 := hok.1
  obtain ⟨hmp, hK, hF, hokm⟩ := id hM
  obtain ⟨vk, hk⟩ := hK.ob
  have hkl := hK.len
  have hkn := hF.1
  have hrn := hR.nob hI
  have htop := rb_top hok hokm
  have hcc := hR.cap
  refine ⟨[some (.ref a), some (.ref r), none], rfl, Nat.le_of_ble_eq_true rfl, fun E hD hH hl _ C => ?_⟩
  subst hD
  subst hH
  subst hl
  have loop2 : ∀ (k i di : Nat) (Y : xH), i + k = es.length → isR di (8 + rbS ss + rbE es) d → cap ≤ di → xAdd E.D X Y r b di (num (nI ss.length) 4 ++ telS ss ++ num (nI es.length) 4 ++ telE (es.take i)) → xG E Y (di - cap) (2 * (di - cap)) 63 [some (.ref a), some (.ref r), some (.int (nI i))] [] := by
    intro k
    induction k with
    | zero =>
      intro i di Y hi hT hcd hZ
      obtain ⟨b1, h4, h5, h6⟩ := hZ
      have hr1 := h4.at
      have hcp := h4.cap
      have hled := hT.le
      have hb1 : I b1 = none := h6.elim (fun e => by rw [e]; exact hb) (fun e => hI.non e)
      obtain ⟨hI1, -⟩ := xAdd.im ⟨b1, h4, h5, h6⟩ hI hrn hb
      have hA1 := hA.keepR hR h5
      obtain ⟨ha1, hL1, hE1, -, hM1, -, -⟩ := id hA1
      obtain ⟨vl1, hl1⟩ := hL1.ob
      obtain ⟨hmp1, hK1, hF1, -⟩ := id hM1
      obtain ⟨vk1, hk1⟩ := hK1.ob
      refine xr_iload_n C d_Ma_tell_63 64 rfl rfl ?_
      refine xr_aload_n C d_Ma_tell_64 65 rfl rfl ?_
      refine xr_get C K_Ma 1 d_Ma_tell_65 68 rfl q_90 (Or.inl rfl) rfl (by first | assumption | exact xup_self | exact (xup_ne (by assumption)).trans (by assumption) | exact (xup_ne (Ne.symm (by assumption))).trans (by assumption) | exact (xup_ne (by assumption)).trans xup_self | exact (xup_ne (Ne.symm (by assumption))).trans xup_self) rfl ?_
      refine xr_get C K_KM 0 d_Ma_tell_68 71 rfl q_78 (Or.inl rfl) rfl (by first | assumption | exact xup_self | exact (xup_ne (by assumption)).trans (by assumption) | exact (xup_ne (Ne.symm (by assumption))).trans (by assumption) | exact (xup_ne (by assumption)).trans xup_self | exact (xup_ne (Ne.symm (by assumption))).trans xup_self) rfl ?_
      refine xr_callV C (l_size hK1) k_AL_size d_Ma_tell_71 74 rfl (by first | assumption | exact xup_self | exact (xup_ne (by assumption)).trans (by assumption) | exact (xup_ne (Ne.symm (by assumption))).trans (by assumption) | exact (xup_ne (by assumption)).trans xup_self | exact (xup_ne (Ne.symm (by assumption))).trans xup_self) rfl (Or.inl q_270) v_AL_size e_AL_size h_AL_size rfl ⟨Nat.le_of_ble_eq_true rfl, Nat.le_of_ble_eq_true rfl, Nat.le_of_ble_eq_true rfl⟩ (by omega) (by omega) (fun v9 Y hP => ?_) (fun _ _ h => absurd h.1 (by simp))
      obtain ⟨h1, rfl⟩ := hP
      cases h1
      refine xr_icmp_ge C d_Ma_tell_74 77 101 rfl (by decide) (fun _ => ?_) (fun h => absurd (nI_le (show as2.length ≤ i by omega) (by omega)) h)
      rw [List.take_of_length_le (show es.length ≤ i by omega)] at h4 hcp
      simp only [List.length_append, num_len, telS_len, telE_len] at hcp
      have e9 : d = di := hT.fit (by omega)
      subst e9
      exact xr_vret C d_Ma_tell_101 (by omega) (by omega) ⟨rfl, b1, h4, h5, h6⟩
    | succ k ih =>
      intro i di Y hi hT hcd hZ
      obtain ⟨b1, h4, h5, h6⟩ := hZ
      have hr1 := h4.at
      have hcp := h4.cap
      have hled := hT.le
      have hb1 : I b1 = none := h6.elim (fun e => by rw [e]; exact hb) (fun e => hI.non e)
      obtain ⟨hI1, -⟩ := xAdd.im ⟨b1, h4, h5, h6⟩ hI hrn hb
      have hA1 := hA.keepR hR h5
      obtain ⟨ha1, hL1, hE1, -, hM1, -, -⟩ := id hA1
      obtain ⟨vl1, hl1⟩ := hL1.ob
      obtain ⟨hmp1, hK1, hF1, -⟩ := id hM1
      obtain ⟨vk1, hk1⟩ := hK1.ob
      have i1 : i < as2.length := by omega
      obtain ⟨p, q, k1, k2, k3, -⟩ := (hF1.2 i i1).use hI1
      have hmo := rbE_mono (ss := es) (i := i + 1)
      rw [rbE_take (by omega)] at hmo
      obtain ⟨d1, g1, g2, g3, g4⟩ := hT.step (n := (num (nI ss.length) 4 ++ telS ss ++ num (nI es.length) 4 ++ telE (es.take i)).length + (3 + (eD es i).1.length + (eD es i).2.length)) (by simp only [List.length_append, num_len, telS_len, telE_len]; omega) hcp.1
      refine xr_iload_n C d_Ma_tell_63 64 rfl rfl ?_
      refine xr_aload_n C d_Ma_tell_64 65 rfl rfl ?_
      refine xr_get C K_Ma 1 d_Ma_tell_65 68 rfl q_90 (Or.inl rfl) rfl (by first | assumption | exact xup_self | exact (xup_ne (by assumption)).trans (by assumption) | exact (xup_ne (Ne.symm (by assumption))).trans (by assumption) | exact (xup_ne (by assumption)).trans xup_self | exact (xup_ne (Ne.symm (by assumption))).trans xup_self) rfl ?_
      refine xr_get C K_KM 0 d_Ma_tell_68 71 rfl q_78 (Or.inl rfl) rfl (by first | assumption | exact xup_self | exact (xup_ne (by assumption)).trans (by assumption) | exact (xup_ne (Ne.symm (by assumption))).trans (by assumption) | exact (xup_ne (by assumption)).trans xup_self | exact (xup_ne (Ne.symm (by assumption))).trans xup_self) rfl ?_
      refine xr_callV C (l_size hK1) k_AL_size d_Ma_tell_71 74 rfl (by first | assumption | exact xup_self | exact (xup_ne (by assumption)).trans (by assumption) | exact (xup_ne (Ne.symm (by assumption))).trans (by assumption) | exact (xup_ne (by assumption)).trans xup_self | exact (xup_ne (Ne.symm (by assumption))).trans xup_self) rfl (Or.inl q_270) v_AL_size e_AL_size h_AL_size rfl ⟨Nat.le_of_ble_eq_true rfl, Nat.le_of_ble_eq_true rfl, Nat.le_of_ble_eq_true rfl⟩ (by omega) (by omega) (fun v9 Y hP => ?_) (fun _ _ h => absurd h.1 (by simp))
      obtain ⟨h1, rfl⟩ := hP
      cases h1
      refine xr_icmp_ge C d_Ma_tell_74 77 101 rfl (by decide) (fun h => absurd h (nI_ge i1 (by omega))) (fun _ => ?_)
      refine xr_aload_n C d_Ma_tell_77 78 rfl rfl ?_
      refine xr_get C K_Ma 1 d_Ma_tell_78 81 rfl q_90 (Or.inl rfl) rfl (by first | assumption | exact xup_self | exact (xup_ne (by assumption)).trans (by assumption) | exact (xup_ne (Ne.symm (by assumption))).trans (by assumption) | exact (xup_ne (by assumption)).trans xup_self | exact (xup_ne (Ne.symm (by assumption))).trans xup_self) rfl ?_
      refine xr_get C K_KM 0 d_Ma_tell_81 84 rfl q_78 (Or.inl rfl) rfl (by first | assumption | exact xup_self | exact (xup_ne (by assumption)).trans (by assumption) | exact (xup_ne (Ne.symm (by assumption))).trans (by assumption) | exact (xup_ne (by assumption)).trans xup_self | exact (xup_ne (Ne.symm (by assumption))).trans xup_self) rfl ?_
      refine xr_iload_n C d_Ma_tell_84 85 rfl rfl ?_
      refine xr_callV C (l_get hK1 i1) k_AL_get d_Ma_tell_85 88 rfl (by first | assumption | exact xup_self | exact (xup_ne (by assumption)).trans (by assumption) | exact (xup_ne (Ne.symm (by assumption))).trans (by assumption) | exact (xup_ne (by assumption)).trans xup_self | exact (xup_ne (Ne.symm (by assumption))).trans xup_self) rfl (Or.inl q_278) v_AL_get e_AL_get h_AL_get rfl ⟨Nat.le_of_ble_eq_true rfl, Nat.le_of_ble_eq_true rfl, Nat.le_of_ble_eq_true rfl⟩ (by omega) (by omega) (fun v9 Y hP => ?_) (fun _ _ h => absurd h.1 (by simp))
      obtain ⟨h1, rfl⟩ := hP
      cases h1
      refine xr_cast C d_Ma_tell_88 91 rfl k1 rfl q_830 ?_
      refine xr_aload_n C d_Ma_tell_91 92 rfl rfl ?_
      refine xr_callV C (c_En_tell hI1 (hF1.2 i i1) h4 hb1 g1 (by omega)) k_En_tell d_Ma_tell_92 95 rfl k1 rfl (Or.inl q_831) v_En_tell e_En_tell h_En_tell rfl ⟨Nat.le_of_ble_eq_true rfl, Nat.le_of_ble_eq_true rfl, Nat.le_of_ble_eq_true rfl⟩ (by omega) (by omega) (fun v9 Y' hP => ?_) (fun _ _ h => absurd h.1 (by simp))
      obtain ⟨e1, e2⟩ := hP
      cases e1
      refine xG.wide (c2 := d1 - cap) (s2 := 2 * (d1 - cap)) (by omega) (by omega) ?_
      refine xr_iinc (v := 1) C d_Ma_tell_95 98 rfl rfl rfl rfl (by decide) ?_
      refine xr_goto C d_Ma_tell_98 63 (by decide) ?_
      refine xG.eqL (show _ = [some (Value.ref a), some (Value.ref r), some (Value.int (nI (i + 1)))] by rw [← nI_one i]; rfl) ?_
      refine ih (i + 1) d1 Y' (by omega) g2 (by omega) ?_
      rw [telE_take (by omega), ← List.append_assoc]
      exact xAdd.then h5 h6 e2
  have loop1 : ∀ (k i di : Nat) (Y : xH), i + k = ss.length → isR di (8 + rbS ss + rbE es) d → cap ≤ di → xAdd E.D X Y r b di (num (nI ss.length) 4 ++ telS (ss.take i)) → xG E Y (di - cap) (2 * (di - cap)) 14 [some (.ref a), some (.ref r), some (.int (nI i))] [] := by
    intro k
    induction k with
    | zero =>
      intro i di Y hi hT hcd hZ
      obtain ⟨b1, h4, h5, h6⟩ := hZ
      have hr1 := h4.at
      have hcp := h4.cap
      have hled := hT.le
      have hb1 : I b1 = none := h6.elim (fun e => by rw [e]; exact hb) (fun e => hI.non e)
      obtain ⟨hI1, -⟩ := xAdd.im ⟨b1, h4, h5, h6⟩ hI hrn hb
      have hA1 := hA.keepR hR h5
      obtain ⟨ha1, hL1, hE1, -, hM1, -, -⟩ := id hA1
      obtain ⟨vl1, hl1⟩ := hL1.ob
      obtain ⟨hmp1, hK1, hF1, -⟩ := id hM1
      obtain ⟨vk1, hk1⟩ := hK1.ob
      refine xr_iload_n C d_Ma_tell_14 15 rfl rfl ?_
      refine xr_aload_n C d_Ma_tell_15 16 rfl rfl ?_
      refine xr_get C K_Ma 0 d_Ma_tell_16 19 rfl q_88 (Or.inl rfl) rfl (by first | assumption | exact xup_self | exact (xup_ne (by assumption)).trans (by assumption) | exact (xup_ne (Ne.symm (by assumption))).trans (by assumption) | exact (xup_ne (by assumption)).trans xup_self | exact (xup_ne (Ne.symm (by assumption))).trans xup_self) rfl ?_
      refine xr_callV C (l_size hL1) k_AL_size d_Ma_tell_19 22 rfl (by first | assumption | exact xup_self | exact (xup_ne (by assumption)).trans (by assumption) | exact (xup_ne (Ne.symm (by assumption))).trans (by assumption) | exact (xup_ne (by assumption)).trans xup_self | exact (xup_ne (Ne.symm (by assumption))).trans xup_self) rfl (Or.inl q_270) v_AL_size e_AL_size h_AL_size rfl ⟨Nat.le_of_ble_eq_true rfl, Nat.le_of_ble_eq_true rfl, Nat.le_of_ble_eq_true rfl⟩ (by omega) (by omega) (fun v9 Y hP => ?_) (fun _ _ h => absurd h.1 (by simp))
      obtain ⟨h1, rfl⟩ := hP
      cases h1
      refine xr_icmp_ge C d_Ma_tell_22 25 46 rfl (by decide) (fun _ => ?_) (fun h => absurd (nI_le (show as1.length ≤ i by omega) (by omega)) h)
      rw [List.take_of_length_le (show ss.length ≤ i by omega)] at h4
      obtain ⟨d1, g1, g2, g3, g4⟩ := hT.step (n := (num (nI ss.length) 4 ++ telS ss).length + 4) (by simp only [List.length_append, num_len, telS_len]; omega) hcp.1
      refine xr_aload_n C d_Ma_tell_46 47 rfl rfl ?_
      refine xr_aload_n C d_Ma_tell_47 48 rfl rfl ?_
      refine xr_get C K_Ma 1 d_Ma_tell_48 51 rfl q_90 (Or.inl rfl) rfl (by first | assumption | exact xup_self | exact (xup_ne (by assumption)).trans (by assumption) | exact (xup_ne (Ne.symm (by assumption))).trans (by assumption) | exact (xup_ne (by assumption)).trans xup_self | exact (xup_ne (Ne.symm (by assumption))).trans xup_self) rfl ?_
      refine xr_get C K_KM 0 d_Ma_tell_51 54 rfl q_78 (Or.inl rfl) rfl (by first | assumption | exact xup_self | exact (xup_ne (by assumption)).trans (by assumption) | exact (xup_ne (Ne.symm (by assumption))).trans (by assumption) | exact (xup_ne (by assumption)).trans xup_self | exact (xup_ne (Ne.symm (by assumption))).trans xup_self) rfl ?_
      refine xr_callV C (l_size hK1) k_AL_size d_Ma_tell_54 57 rfl (by first | assumption | exact xup_self | exact (xup_ne (by assumption)).trans (by assumption) | exact (xup_ne (Ne.symm (by assumption))).trans (by assumption) | exact (xup_ne (by assumption)).trans xup_self | exact (xup_ne (Ne.symm (by assumption))).trans xup_self) rfl (Or.inl q_270) v_AL_size e_AL_size h_AL_size rfl ⟨Nat.le_of_ble_eq_true rfl, Nat.le_of_ble_eq_true rfl, Nat.le_of_ble_eq_true rfl⟩ (by omega) (by omega) (fun v9 Y hP => ?_) (fun _ _ h => absurd h.1 (by simp))
      obtain ⟨h1, rfl⟩ := hP
      cases h1
      refine xr_iconst (v := 4) C d_Ma_tell_57 58 rfl (by decide) ?_
      refine xG.eqS (show _ = [Value.int (nI 4), Value.int (nI es.length), Value.ref r] by rw [hkn]; rfl) ?_
      refine xr_callV C (c_Ro_addNumber (n := 4) h4 (by omega) g1 (by omega)) k_Ro_addNumber d_Ma_tell_58 61 rfl (by first | assumption | exact xup_self | exact (xup_ne (by assumption)).trans (by assumption) | exact (xup_ne (Ne.symm (by assumption))).trans (by assumption) | exact (xup_ne (by assumption)).trans xup_self | exact (xup_ne (Ne.symm (by assumption))).trans xup_self) rfl (Or.inl q_823) v_Ro_addNumber e_Ro_addNumber h_Ro_addNumber rfl ⟨Nat.le_of_ble_eq_true rfl, Nat.le_of_ble_eq_true rfl, Nat.le_of_ble_eq_true rfl⟩ (by omega) (by omega) (fun v9 Y' hP => ?_) (fun _ _ h => absurd h.1 (by simp))
      obtain ⟨e1, e2⟩ := hP
      cases e1
      refine xG.wide (c2 := d1 - cap) (s2 := 2 * (d1 - cap)) (by omega) (by omega) ?_
      refine xr_iconst (v := 0) C d_Ma_tell_61 62 rfl (by decide) ?_
      refine xr_istore_n C d_Ma_tell_62 63 rfl rfl rfl ?_
      refine loop2 es.length 0 d1 Y' (by omega) g2 (by omega) ?_
      rw [List.take_zero, show telE [] = [] from rfl, List.append_nil]
      exact xAdd.then h5 h6 e2
    | succ k ih =>
      intro i di Y hi hT hcd hZ
      obtain ⟨b1, h4, h5, h6⟩ := hZ
      have hr1 := h4.at
      have hcp := h4.cap
      have hled := hT.le
      have hb1 : I b1 = none := h6.elim (fun e => by rw [e]; exact hb) (fun e => hI.non e)
      obtain ⟨hI1, -⟩ := xAdd.im ⟨b1, h4, h5, h6⟩ hI hrn hb
      have hA1 := hA.keepR hR h5
      obtain ⟨ha1, hL1, hE1, -, hM1, -, -⟩ := id hA1
      obtain ⟨vl1, hl1⟩ := hL1.ob
      obtain ⟨hmp1, hK1, hF1, -⟩ := id hM1
      obtain ⟨vk1, hk1⟩ := hK1.ob
      have i1 : i < as1.length := by omega
      obtain ⟨q, k1, k2, k3⟩ := (hE1.2 i i1).use hI1
      have hmo := rbS_mono (ss := ss) (i := i + 1)
      rw [rbS_take (by omega)] at hmo
      obtain ⟨d1, g1, g2, g3, g4⟩ := hT.step (n := (num (nI ss.length) 4 ++ telS (ss.take i)).length + (18 + (sD ss i).2.2.2.2.length)) (by simp only [List.length_append, num_len, telS_len]; omega) hcp.1
      refine xr_iload_n C d_Ma_tell_14 15 rfl rfl ?_
      refine xr_aload_n C d_Ma_tell_15 16 rfl rfl ?_
      refine xr_get C K_Ma 0 d_Ma_tell_16 19 rfl q_88 (Or.inl rfl) rfl (by first | assumption | exact xup_self | exact (xup_ne (by assumption)).trans (by assumption) | exact (xup_ne (Ne.symm (by assumption))).trans (by assumption) | exact (xup_ne (by assumption)).trans xup_self | exact (xup_ne (Ne.symm (by assumption))).trans xup_self) rfl ?_
      refine xr_callV C (l_size hL1) k_AL_size d_Ma_tell_19 22 rfl (by first | assumption | exact xup_self | exact (xup_ne (by assumption)).trans (by assumption) | exact (xup_ne (Ne.symm (by assumption))).trans (by assumption) | exact (xup_ne (by assumption)).trans xup_self | exact (xup_ne (Ne.symm (by assumption))).trans xup_self) rfl (Or.inl q_270) v_AL_size e_AL_size h_AL_size rfl ⟨Nat.le_of_ble_eq_true rfl, Nat.le_of_ble_eq_true rfl, Nat.le_of_ble_eq_true rfl⟩ (by omega) (by omega) (fun v9 Y hP => ?_) (fun _ _ h => absurd h.1 (by simp))
      obtain ⟨h1, rfl⟩ := hP
      cases h1
      refine xr_icmp_ge C d_Ma_tell_22 25 46 rfl (by decide) (fun h => absurd h (nI_ge i1 (by omega))) (fun _ => ?_)
      refine xr_aload_n C d_Ma_tell_25 26 rfl rfl ?_
      refine xr_get C K_Ma 0 d_Ma_tell_26 29 rfl q_88 (Or.inl rfl) rfl (by first | assumption | exact xup_self | exact (xup_ne (by assumption)).trans (by assumption) | exact (xup_ne (Ne.symm (by assumption))).trans (by assumption) | exact (xup_ne (by assumption)).trans xup_self | exact (xup_ne (Ne.symm (by assumption))).trans xup_self) rfl ?_
      refine xr_iload_n C d_Ma_tell_29 30 rfl rfl ?_
      refine xr_callV C (l_get hL1 i1) k_AL_get d_Ma_tell_30 33 rfl (by first | assumption | exact xup_self | exact (xup_ne (by assumption)).trans (by assumption) | exact (xup_ne (Ne.symm (by assumption))).trans (by assumption) | exact (xup_ne (by assumption)).trans xup_self | exact (xup_ne (Ne.symm (by assumption))).trans xup_self) rfl (Or.inl q_278) v_AL_get e_AL_get h_AL_get rfl ⟨Nat.le_of_ble_eq_true rfl, Nat.le_of_ble_eq_true rfl, Nat.le_of_ble_eq_true rfl⟩ (by omega) (by omega) (fun v9 Y hP => ?_) (fun _ _ h => absurd h.1 (by simp))
      obtain ⟨h1, rfl⟩ := hP
      cases h1
      refine xr_cast C d_Ma_tell_33 36 rfl k1 rfl q_292 ?_
      refine xr_aload_n C d_Ma_tell_36 37 rfl rfl ?_
      refine xr_callV C (c_Se_tell hI1 (hE1.2 i i1) h4 hb1 g1 (by omega)) k_Se_tell d_Ma_tell_37 40 rfl k1 rfl (Or.inl q_824) v_Se_tell e_Se_tell h_Se_tell rfl ⟨Nat.le_of_ble_eq_true rfl, Nat.le_of_ble_eq_true rfl, Nat.le_of_ble_eq_true rfl⟩ (by omega) (by omega) (fun v9 Y' hP => ?_) (fun _ _ h => absurd h.1 (by simp))
      obtain ⟨e1, e2⟩ := hP
      cases e1
      refine xG.wide (c2 := d1 - cap) (s2 := 2 * (d1 - cap)) (by omega) (by omega) ?_
      refine xr_iinc (v := 1) C d_Ma_tell_40 43 rfl rfl rfl rfl (by decide) ?_
      refine xr_goto C d_Ma_tell_43 14 (by decide) ?_
      refine xG.eqL (show _ = [some (Value.ref a), some (Value.ref r), some (Value.int (nI (i + 1)))] by rw [← nI_one i]; rfl) ?_
      refine ih (i + 1) d1 Y' (by omega) g2 (by omega) ?_
      rw [telS_take (by omega), ← List.append_assoc]
      exact xAdd.then h5 h6 e2
  have hr1 := hR.at
  obtain ⟨d1, g1, g2, g3, g4⟩ := hd.step (n := ([] : List Int32).length + 4) (by rw [List.length_nil]; omega) hcc.1
  refine xG.wide (c2 := cap - cap) (s2 := 2 * (cap - cap)) (by omega) (by omega) ?_
  refine xr_aload_n C d_Ma_tell_0 1 rfl rfl ?_
  refine xr_aload_n C d_Ma_tell_1 2 rfl rfl ?_
  refine xr_get C K_Ma 0 d_Ma_tell_2 5 rfl q_88 (Or.inl rfl) rfl (by first | assumption | exact xup_self | exact (xup_ne (by assumption)).trans (by assumption) | exact (xup_ne (Ne.symm (by assumption))).trans (by assumption) | exact (xup_ne (by assumption)).trans xup_self | exact (xup_ne (Ne.symm (by assumption))).trans xup_self) rfl ?_
  refine xr_callV C (l_size hL) k_AL_size d_Ma_tell_5 8 rfl (by first | assumption | exact xup_self | exact (xup_ne (by assumption)).trans (by assumption) | exact (xup_ne (Ne.symm (by assumption))).trans (by assumption) | exact (xup_ne (by assumption)).trans xup_self | exact (xup_ne (Ne.symm (by assumption))).trans xup_self) rfl (Or.inl q_270) v_AL_size e_AL_size h_AL_size rfl ⟨Nat.le_of_ble_eq_true rfl, Nat.le_of_ble_eq_true rfl, Nat.le_of_ble_eq_true rfl⟩ (by omega) (by omega) (fun v9 X hP => ?_) (fun _ _ h => absurd h.1 (by simp))
  obtain ⟨h1, rfl⟩ := hP
  cases h1
  refine xr_iconst (v := 4) C d_Ma_tell_8 9 rfl (by decide) ?_
  refine xG.eqS (show _ = [Value.int (nI 4), Value.int (nI ss.length), Value.ref r] by rw [hlen]; rfl) ?_
  refine xr_callV C (c_Ro_addNumber (n := 4) hR (by omega) g1 (by omega)) k_Ro_addNumber d_Ma_tell_9 12 rfl (by first | assumption | exact xup_self | exact (xup_ne (by assumption)).trans (by assumption) | exact (xup_ne (Ne.symm (by assumption))).trans (by assumption) | exact (xup_ne (by assumption)).trans xup_self | exact (xup_ne (Ne.symm (by assumption))).trans xup_self) rfl (Or.inl q_823) v_Ro_addNumber e_Ro_addNumber h_Ro_addNumber rfl ⟨Nat.le_of_ble_eq_true rfl, Nat.le_of_ble_eq_true rfl, Nat.le_of_ble_eq_true rfl⟩ (by omega) (by omega) (fun v9 Y' hP => ?_) (fun _ _ h => absurd h.1 (by simp))
  obtain ⟨e1, e2⟩ := hP
  cases e1
  refine xG.wide (c2 := d1 - cap) (s2 := 2 * (d1 - cap)) (by omega) (by omega) ?_
  refine xr_iconst (v := 0) C d_Ma_tell_12 13 rfl (by decide) ?_
  refine xr_istore_n C d_Ma_tell_13 14 rfl rfl rfl ?_
  refine loop1 ss.length 0 d1 Y' (by omega) g2 (by omega) ?_
  rw [List.take_zero, show telS [] = [] from rfl, List.append_nil]
  exact e2
