/-! JDK: ArrayList, the rest, over xLi. -/
theorem getD_erase {as : List Nat} {j i : Nat} : (as.eraseIdx j).getD i 0 = if i < j then as.getD i 0 else as.getD (i + 1) 0 := by
  rw [List.getD_eq_getElem?_getD, List.getElem?_eraseIdx]
  split <;> rw [List.getD_eq_getElem?_getD]
theorem getD_set {as : List Nat} {j i v : Nat} (hj : j < as.length) : (as.set j v).getD i 0 = if i = j then v else as.getD i 0 := by
  rw [List.getD_eq_getElem?_getD, List.getD_eq_getElem?_getD]
  by_cases h : i = j
  · subst h
    rw [if_pos rfl, List.getElem?_set_self hj]
    rfl
  · rw [if_neg h, List.getElem?_set_ne (Ne.symm h)]
def insAt {α : Type} (as : List α) (j : Nat) (v : α) : List α := as.take j ++ v :: as.drop j
theorem insAt_length {α : Type} {as : List α} {j : Nat} {v : α} (hj : j ≤ as.length) : (insAt as j v).length = as.length + 1 := by
  unfold insAt
  rw [List.length_append, List.length_cons, List.length_take, List.length_drop]
  omega
theorem getD_ins {as : List Nat} {j i v : Nat} (hj : j ≤ as.length) : (insAt as j v).getD i 0 = if i < j then as.getD i 0 else if i = j then v else as.getD (i - 1) 0 := by
  unfold insAt
  have ht : (as.take j).length = j := by rw [List.length_take]; omega
  rw [List.getD_eq_getElem?_getD]
  by_cases h : i < j
  · rw [if_pos h, List.getElem?_append_left (by omega), List.getElem?_take_of_lt h, List.getD_eq_getElem?_getD]
  · rw [if_neg h, List.getElem?_append_right (by omega), ht]
    by_cases h2 : i = j
    · subst h2
      rw [if_pos rfl, Nat.sub_self]
      rfl
    · rw [if_neg h2, show i - j = (i - j - 1) + 1 by omega, List.getElem?_cons_succ, List.getElem?_drop, List.getD_eq_getElem?_getD]
      congr 2
      omega
theorem xLi.len {D : va_G} {X : xH} {a b cap : Nat} {as : List Nat} (h : xLi D X a b cap as) : as.length ≤ 200 := by
  obtain ⟨mo, f, -, -, h1, h2, -⟩ := h
  omega
set_option maxRecDepth 100000 in
set_option maxHeartbeats 4000000 in
theorem l_size {l : Launch} {D : va_G} {H0 : Heap} {X : xH} {a b cap : Nat} {as : List Nat} (hL : xLi D X a b cap as) : xMet l D H0 y_AL_size b_AL_size 1 (some .int) [] 0 0 0 [.ref a] X (fun o X' => o = .inl (some (.int (nI as.length))) ∧ X' = X) := by
  obtain ⟨mo, f, ha, -⟩ := hL
  exact c_AL_size ha
set_option maxRecDepth 100000 in
set_option maxHeartbeats 4000000 in
theorem l_get {l : Launch} {D : va_G} {H0 : Heap} {X : xH} {a b cap j : Nat} {as : List Nat} (hL : xLi D X a b cap as) (hj : j < as.length) : xMet l D H0 y_AL_get b_AL_get 2 (some (.object "java/lang/Object")) [] 2 0 0 [.ref a, .int (nI j)] X (fun o X' => o = .inl (some (.ref (as.getD j 0))) ∧ X' = X) := by
  obtain ⟨mo, f, ha, hb, hle, hc, hz, hf⟩ := hL
  exact c_AL_get ha hb hj hle (by omega) (hf j hj)
set_option maxRecDepth 100000 in
set_option maxHeartbeats 4000000 in
theorem l_set {l : Launch} {D : va_G} {H0 : Heap} {X : xH} {a b cap j v : Nat} {as : List Nat} (hL : xLi D X a b cap as) (hj : j < as.length) (hv : xOb X v) : xMet l D H0 y_AL_set b_AL_set 4 (some (.object "java/lang/Object")) [] 2 0 0 [.ref a, .int (nI j), .ref v] X (fun o X' => o = .inl (some (.ref (as.getD j 0))) ∧ xLi D X' a b cap (as.set j v) ∧ xFr [a, b] X X') := by
  obtain ⟨mo, f, ha, hb, hle, hc, hz, hf⟩ := hL
  refine (c_AL_set ha hb hj hle (by omega) (hf j hj) hv).mono (fun r X' hP => ?_)
  obtain ⟨h1, rfl⟩ := hP
  have hab : a ≠ b := xne ha hb (by intro h; cases h)
  refine ⟨h1, ⟨mo, va_up f j (some v), ?_, xup_self, by rw [List.length_set]; exact hle, hc, hz, fun i hi => ?_⟩, xFr_up hb (fun z => absurd z (show cap ≠ 0 by omega)) (by simp)⟩
  · rw [List.length_set]
    exact (xup_ne hab).trans ha
  · rw [List.length_set] at hi
    rw [getD_set hj]
    by_cases h : i = j
    · subst h
      rw [if_pos rfl]
      exact va_up_self _ _ _
    · rw [if_neg h, va_up_ne _ _ h]
      exact hf i hi
set_option maxRecDepth 100000 in
set_option maxHeartbeats 4000000 in
theorem l_remove {l : Launch} {D : va_G} {H0 : Heap} {X : xH} {a b cap j : Nat} {as : List Nat} (hL : xLi D X a b cap as) (hj : j < as.length) (ho : ∀ q ∈ as, xOb X q) : xMet l D H0 y_AL_remove b_AL_remove 4 (some (.object "java/lang/Object")) [] 2 0 0 [.ref a, .int (nI j)] X (fun o X' => o = .inl (some (.ref (as.getD j 0))) ∧ xLi D X' a b cap (as.eraseIdx j) ∧ xFr [a, b] X X') := by
  obtain ⟨mo, f, ha, hb, hle, hc, hz, hf⟩ := hL
  refine ⟨[some (.ref a), some (.int (nI j)), none, none], rfl, Nat.le_of_ble_eq_true rfl, fun E hD hH hl _ C => ?_⟩
  subst hD
  subst hH
  subst hl
  have hab : a ≠ b := xne ha hb (by intro h; cases h)
  refine xr_iload_n C d_AL_remove_0 1 rfl rfl ?_
  refine xr_aload_n C d_AL_remove_1 2 rfl rfl ?_
  refine xr_get C K_AL 2 d_AL_remove_2 5 rfl q_58 (Or.inl rfl) rfl (by first | assumption | exact xup_self | exact (xup_ne (by assumption)).trans (by assumption) | exact (xup_ne (Ne.symm (by assumption))).trans (by assumption) | exact (xup_ne (by assumption)).trans xup_self | exact (xup_ne (Ne.symm (by assumption))).trans xup_self) rfl ?_
  refine xr_callS C (c_OB_checkIndex hj (by omega)) k_OB_checkIndex d_AL_remove_5 8 rfl (Or.inl q_282) s_OB_checkIndex in_OB_checkIndex h_OB_checkIndex rfl ⟨Nat.le_of_ble_eq_true rfl, Nat.le_of_ble_eq_true rfl, Nat.le_of_ble_eq_true rfl⟩ (by omega) (by omega) (fun v9 X hP => ?_) (fun _ _ h => absurd h.1 (by simp))
  obtain ⟨h1, rfl⟩ := hP
  cases h1
  refine xr_pop C d_AL_remove_8 9 rfl rfl ?_
  refine xr_aload_n C d_AL_remove_9 10 rfl rfl ?_
  refine xr_get C K_AL 1 d_AL_remove_10 13 rfl q_57 (Or.inl rfl) rfl (by first | assumption | exact xup_self | exact (xup_ne (by assumption)).trans (by assumption) | exact (xup_ne (Ne.symm (by assumption))).trans (by assumption) | exact (xup_ne (by assumption)).trans xup_self | exact (xup_ne (Ne.symm (by assumption))).trans xup_self) rfl ?_
  refine xr_astore_n C d_AL_remove_13 14 rfl rfl rfl ?_
  refine xr_aload_n C d_AL_remove_14 15 rfl rfl ?_
  refine xr_iload_n C d_AL_remove_15 16 rfl rfl ?_
  refine xr_aald C d_AL_remove_16 17 rfl hb rfl (by omega) (by omega) (hf j hj) ?_
  refine xr_astore_n C d_AL_remove_17 18 rfl rfl rfl ?_
  refine xr_aload_n C d_AL_remove_18 19 rfl rfl ?_
  refine xr_aload_n C d_AL_remove_19 20 rfl rfl ?_
  refine xr_iload_n C d_AL_remove_20 21 rfl rfl ?_
  refine xr_callV C (c_AL_fastRemove ha hb hj hle (by omega) (xLi.el (D := E.D) hf ho)) k_AL_fastRemove d_AL_remove_21 24 rfl (by first | assumption | exact xup_self | exact (xup_ne (by assumption)).trans (by assumption) | exact (xup_ne (Ne.symm (by assumption))).trans (by assumption) | exact (xup_ne (by assumption)).trans xup_self | exact (xup_ne (Ne.symm (by assumption))).trans xup_self) rfl (Or.inl q_297) v_AL_fastRemove e_AL_fastRemove h_AL_fastRemove rfl ⟨Nat.le_of_ble_eq_true rfl, Nat.le_of_ble_eq_true rfl, Nat.le_of_ble_eq_true rfl⟩ (by omega) (by omega) (fun v X' hP => ?_) (fun _ _ h => absurd h.1 (by simp))
  obtain ⟨h1, mo', f', rfl, h2⟩ := hP
  cases h1
  refine xr_aload_n C d_AL_remove_24 25 rfl rfl ?_
  have hlen : (as.eraseIdx j).length = as.length - 1 := List.length_eraseIdx_of_lt hj
  refine xr_aret C d_AL_remove_25 (Or.inl ⟨_, rfl⟩) (by omega) (by omega) ⟨rfl, ⟨mo', f', ?_, xup_self, by omega, hc, hz, fun i hi => ?_⟩, ?_⟩
  · rw [hlen]
    exact (xup_ne hab).trans xup_self
  · rw [hlen] at hi
    rw [h2 i hi, getD_erase]
    by_cases h : i < j
    · rw [if_pos h, if_pos h]
      exact hf i (by omega)
    · rw [if_neg h, if_neg h]
      exact hf (i + 1) (by omega)
  · exact (xFr_up ha (fun z => z) (by simp)).trans (xFr_up ((xup_ne (Ne.symm hab)).trans hb) (fun z => absurd z (show cap ≠ 0 by omega)) (by simp))
set_option maxRecDepth 100000 in
set_option maxHeartbeats 4000000 in
theorem c_AL_rangeCheckForAdd {l : Launch} {D : va_G} {H0 : Heap} {X : xH} {a j n : Nat} {v0 v1 : Value} (ha : X a = some (.inr (7, [v0, v1, .int (nI n)]))) (hj : j ≤ n) (hn : n < 2 ^ 31) : xMet l D H0 y_AL_rangeCheckForAdd b_AL_rangeCheckForAdd 2 none [] 0 0 0 [.ref a, .int (nI j)] X (fun o X' => o = .inl none ∧ X' = X) := by
  refine ⟨[some (.ref a), some (.int (nI j))], rfl, Nat.le_of_ble_eq_true rfl, fun E hD hH hl _ C => ?_⟩
  subst hD
  subst hH
  subst hl
  refine xr_iload_n C d_AL_rangeCheckForAdd_0 1 rfl rfl ?_
  refine xr_aload_n C d_AL_rangeCheckForAdd_1 2 rfl rfl ?_
  refine xr_get C K_AL 2 d_AL_rangeCheckForAdd_2 5 rfl q_58 (Or.inl rfl) rfl (by first | assumption | exact xup_self | exact (xup_ne (by assumption)).trans (by assumption) | exact (xup_ne (Ne.symm (by assumption))).trans (by assumption) | exact (xup_ne (by assumption)).trans xup_self | exact (xup_ne (Ne.symm (by assumption))).trans xup_self) rfl ?_
  refine xr_icmp_gt C d_AL_rangeCheckForAdd_5 8 12 rfl (by decide) (fun h => absurd h (nI_nlt hj hn)) (fun _ => ?_)
  refine xr_iload_n C d_AL_rangeCheckForAdd_8 9 rfl rfl ?_
  refine xr_if_ge C d_AL_rangeCheckForAdd_9 12 25 rfl (by decide) (fun _ => ?_) (fun h => absurd (nI_pos' (by omega)) h)
  exact xr_vret C d_AL_rangeCheckForAdd_25 (by omega) (by omega) ⟨rfl, rfl⟩
set_option maxRecDepth 100000 in
set_option maxHeartbeats 4000000 in
theorem l_insert {l : Launch} {D : va_G} {H0 : Heap} {X : xH} {a b cap j v : Nat} {as : List Nat} (hL : xLi D X a b cap as) (hj : j ≤ as.length) (hn : as.length ≤ 128) (ho : ∀ q ∈ as, xOb X q) (hv : xOb X v) : xMet l D H0 y_AL_add2 b_AL_add2 5 none [] 4 1 200 [.ref a, .int (nI j), .ref v] X (fun o X' => o = .inl none ∧ ∃ b' : Nat, xLi D X' a b' (if as.length < cap then cap else nx cap) (insAt as j v) ∧ xFr [a, b] X X' ∧ (b' = b ∨ X b' = none)) := by
  obtain ⟨mo, f, ha, hb, hle, hc, hz, hf⟩ := hL
  refine ⟨[some (.ref a), some (.int (nI j)), some (.ref v), none, none], rfl, Nat.le_of_ble_eq_true rfl, fun E hD hH hl _ C => ?_⟩
  subst hD
  subst hH
  subst hl
  have hab : a ≠ b := xne ha hb (by intro h; cases h)
  refine xr_aload_n C d_AL_add2_0 1 rfl rfl ?_
  refine xr_iload_n C d_AL_add2_1 2 rfl rfl ?_
  refine xr_callV C (c_AL_rangeCheckForAdd ha hj (by omega)) k_AL_rangeCheckForAdd d_AL_add2_2 5 rfl (by first | assumption | exact xup_self | exact (xup_ne (by assumption)).trans (by assumption) | exact (xup_ne (Ne.symm (by assumption))).trans (by assumption) | exact (xup_ne (by assumption)).trans xup_self | exact (xup_ne (Ne.symm (by assumption))).trans xup_self) rfl (Or.inl q_734) v_AL_rangeCheckForAdd e_AL_rangeCheckForAdd h_AL_rangeCheckForAdd rfl ⟨Nat.le_of_ble_eq_true rfl, Nat.le_of_ble_eq_true rfl, Nat.le_of_ble_eq_true rfl⟩ (by omega) (by omega) (fun v9 X hP => ?_) (fun _ _ h => absurd h.1 (by simp))
  obtain ⟨h1, rfl⟩ := hP
  cases h1
  refine xr_aload_n C d_AL_add2_5 6 rfl rfl ?_
  refine xr_dup C d_AL_add2_6 7 rfl rfl ?_
  refine xr_get C K_AL 0 d_AL_add2_7 10 rfl q_60 (Or.inr q_61) rfl (by first | assumption | exact xup_self | exact (xup_ne (by assumption)).trans (by assumption) | exact (xup_ne (Ne.symm (by assumption))).trans (by assumption) | exact (xup_ne (by assumption)).trans xup_self | exact (xup_ne (Ne.symm (by assumption))).trans xup_self) rfl ?_
  refine xr_iconst (v := 1) C d_AL_add2_10 11 rfl (by decide) ?_
  refine xr_iadd C d_AL_add2_11 12 rfl ?_
  refine xr_put C K_AL 0 d_AL_add2_12 15 rfl q_60 (Or.inr q_61) rfl rfl rfl rfl (by first | assumption | exact xup_self | exact (xup_ne (by assumption)).trans (by assumption) | exact (xup_ne (Ne.symm (by assumption))).trans (by assumption) | exact (xup_ne (by assumption)).trans xup_self | exact (xup_ne (Ne.symm (by assumption))).trans xup_self) rfl rfl ?_
  refine xr_aload_n C d_AL_add2_15 16 rfl rfl ?_
  refine xr_get C K_AL 2 d_AL_add2_16 19 rfl q_58 (Or.inl rfl) rfl (by first | assumption | exact xup_self | exact (xup_ne (by assumption)).trans (by assumption) | exact (xup_ne (Ne.symm (by assumption))).trans (by assumption) | exact (xup_ne (by assumption)).trans xup_self | exact (xup_ne (Ne.symm (by assumption))).trans xup_self) rfl ?_
  refine xr_dup C d_AL_add2_19 20 rfl rfl ?_
  refine xr_istore_n C d_AL_add2_20 21 rfl rfl rfl ?_
  refine xr_aload_n C d_AL_add2_21 22 rfl rfl ?_
  refine xr_get C K_AL 1 d_AL_add2_22 25 rfl q_57 (Or.inl rfl) rfl (by first | assumption | exact xup_self | exact (xup_ne (by assumption)).trans (by assumption) | exact (xup_ne (Ne.symm (by assumption))).trans (by assumption) | exact (xup_ne (by assumption)).trans xup_self | exact (xup_ne (Ne.symm (by assumption))).trans xup_self) rfl ?_
  refine xr_dup C d_AL_add2_25 26 rfl rfl ?_
  refine xr_astore C d_AL_add2_26 28 rfl rfl rfl ?_
  obtain ⟨X1, hX1⟩ : ∃ z, z = xup X a (.inr (7, [.int (mo + 1), .ref b, .int (nI as.length)])) := ⟨_, rfl⟩
  refine xG.eqX (show _ = X1 from hX1.symm) ?_
  have ha1 : X1 a = some (.inr (7, [.int (mo + 1), .ref b, .int (nI as.length)])) := by rw [hX1]; exact xup_self
  have hb1 : X1 b = some (.inl (E.D.1 101, cap, .inr (.inr (.inr (.inr f))))) := by rw [hX1]; exact (xup_ne (Ne.symm hab)).trans hb
  have ho1 : ∀ q ∈ as, xOb X1 q := fun q hq => by rw [hX1]; exact (ho q hq).up ha
  have hv1 : xOb X1 v := by rw [hX1]; exact hv.up ha
  have hfr1 : xFr [a, b] X X1 := by rw [hX1]; exact xFr_up ha (fun z => z) (by simp)
  refine xr_alen (t0 := 1) C rfl d_AL_add2_28 29 rfl hb1 ?_
  refine xr_icmp_ne C d_AL_add2_29 32 38 rfl (by decide) (fun h29 => ?_) (fun h29 => ?_)
  · have hlt : as.length < cap := by
      rcases Nat.lt_or_ge as.length cap with h | h
      · exact h
      · exact absurd (show nI as.length = nI cap by rw [show as.length = cap by omega]) h29
    refine xr_aload C d_AL_add2_38 40 rfl rfl ?_
    refine xr_iload_n C d_AL_add2_40 41 rfl rfl ?_
    refine xr_aload C d_AL_add2_41 43 rfl rfl ?_
    refine xr_iload_n C d_AL_add2_43 44 rfl rfl ?_
    refine xr_iconst (v := 1) C d_AL_add2_44 45 rfl (by decide) ?_
    refine xr_iadd C d_AL_add2_45 46 rfl ?_
    refine xr_iload_n C d_AL_add2_46 47 rfl rfl ?_
    refine xr_iload_n C d_AL_add2_47 48 rfl rfl ?_
    refine xr_isub C d_AL_add2_48 49 rfl ?_
    refine xr_toi (pk_sub hj) ?_
    refine xG.eqS (show _ = [Value.int (nI (as.length - j)), Value.int (nI (j + 1)), Value.ref b, Value.int (nI j), Value.ref b] from by rw [nI_one] <;> rfl) ?_
    refine xr_copyq C d_AL_add2_49 52 rfl q_301 w_copy hb1 hb1 (by omega) (by omega) (by omega) (by omega) (by omega) (Nat.le_of_ble_eq_true rfl) (fun i hi q hq => xLi.el (D := E.D) hf ho1 (j + i) (by omega) q hq) ?_
    obtain ⟨ci, vs, r, o1, o2, o3⟩ := hv1.arr (v := .inl (E.D.1 101, cap, .inr (.inr (.inr (.inr (va_cpy f f j (j + 1) (as.length - j))))))) hb1
    refine xr_aload C d_AL_add2_52 54 rfl rfl ?_
    refine xr_iload_n C d_AL_add2_54 55 rfl rfl ?_
    refine xr_aload_n C d_AL_add2_55 56 rfl rfl ?_
    refine xr_aast C d_AL_add2_56 57 rfl xup_self rfl (by omega) (by omega) o1 o2 o3 ?_
    refine xG.eqX xup_up ?_
    refine xr_aload_n C d_AL_add2_57 58 rfl rfl ?_
    refine xr_iload_n C d_AL_add2_58 59 rfl rfl ?_
    refine xr_iconst (v := 1) C d_AL_add2_59 60 rfl (by decide) ?_
    refine xr_iadd C d_AL_add2_60 61 rfl ?_
    refine xr_toi (nI_one _) ?_
    refine xr_put C K_AL 2 d_AL_add2_61 64 rfl q_58 (Or.inl rfl) rfl rfl rfl rfl ((xup_ne hab).trans ha1) rfl rfl ?_
    refine xr_vret C d_AL_add2_64 (by omega) (by omega) ?_
    rw [if_pos hlt]
    refine ⟨rfl, b, ⟨mo + 1, va_up (va_cpy f f j (j + 1) (as.length - j)) j (some v), ?_, (xup_ne (Ne.symm hab)).trans xup_self, ?_, hc, hz, fun i hi => ?_⟩, ?_, Or.inl rfl⟩
    · rw [insAt_length hj]
      exact xup_self
    · rw [insAt_length hj]
      omega
    · rw [insAt_length hj] at hi
      rw [getD_ins hj]
      by_cases h : i < j
      · rw [if_pos h, va_up_ne _ _ (by omega), pk_cpy_out (by omega)]
        exact hf i (by omega)
      · rw [if_neg h]
        by_cases h2 : i = j
        · subst h2
          rw [if_pos rfl]
          exact va_up_self _ _ _
        · rw [if_neg h2, va_up_ne _ _ h2, pk_cpy_in (by omega) (by omega), show j + (i - (j + 1)) = i - 1 by omega]
          exact hf (i - 1) (by omega)
    · exact hfr1.trans ((xFr_up hb1 (fun z => absurd z (show cap ≠ 0 by omega)) (by simp)).trans (xFr_up ((xup_ne hab).trans ha1) (fun z => z) (by simp)))
  · have heq : as.length = cap := (nI_eq (by omega) (by omega)).mp h29
    subst heq
    refine xr_aload_n C d_AL_add2_32 33 rfl rfl ?_
    refine xr_callV C (c_AL_grow0 ha1 hb1 hn hz (xLi.el (D := E.D) hf ho1)) k_AL_grow0 d_AL_add2_33 36 rfl (by first | assumption | exact xup_self | exact (xup_ne (by assumption)).trans (by assumption) | exact (xup_ne (Ne.symm (by assumption))).trans (by assumption) | exact (xup_ne (by assumption)).trans xup_self | exact (xup_ne (Ne.symm (by assumption))).trans xup_self) rfl (Or.inl q_342) v_AL_grow0 e_AL_grow0 h_AL_grow0 rfl ⟨Nat.le_of_ble_eq_true rfl, Nat.le_of_ble_eq_true rfl, Nat.le_of_ble_eq_true rfl⟩ (by omega) (by omega) (fun v9 X' hP => ?_) (fun _ _ h => by obtain ⟨q, N, f9, h, -⟩ := h; cases h)
    obtain ⟨q, N, f', h1, h2, h4, h5, rfl, h6, h7⟩ := hP
    cases h1
    have hqa : q ≠ a := Ne.symm (xne_none ha1 h2)
    have hX2 : xup (xup X1 q (.inl (E.D.1 101, N, .inr (.inr (.inr (.inr f')))))) a (.inr (7, [.int (mo + 1), .ref q, .int (nI as.length)])) q = some (.inl (E.D.1 101, N, .inr (.inr (.inr (.inr f'))))) := (xup_ne hqa).trans xup_self
    have ho2 : ∀ z ∈ as, xOb (xup (xup X1 q (.inl (E.D.1 101, N, .inr (.inr (.inr (.inr f')))))) a (.inr (7, [.int (mo + 1), .ref q, .int (nI as.length)]))) z := fun z hz => ((ho1 z hz).fresh h2).up (xup_fresh ha1 h2)
    have hf' : ∀ i, i < as.length → f' i = some (as.getD i 0) := fun i hi => (h6 i hi).trans (hf i hi)
    have hv2 := ((hv1.fresh (v := .inl (E.D.1 101, N, .inr (.inr (.inr (.inr f'))))) h2).up (fs' := [.int (mo + 1), .ref q, .int (nI as.length)]) (xup_fresh ha1 h2)).arr (v := .inl (E.D.1 101, N, .inr (.inr (.inr (.inr (va_cpy f' f' j (j + 1) (as.length - j))))))) hX2
    obtain ⟨ci, vs, r, o1, o2, o3⟩ := hv2
    refine xr_astore C d_AL_add2_36 38 rfl rfl rfl ?_
    refine xr_aload C d_AL_add2_38 40 rfl rfl ?_
    refine xr_iload_n C d_AL_add2_40 41 rfl rfl ?_
    refine xr_aload C d_AL_add2_41 43 rfl rfl ?_
    refine xr_iload_n C d_AL_add2_43 44 rfl rfl ?_
    refine xr_iconst (v := 1) C d_AL_add2_44 45 rfl (by decide) ?_
    refine xr_iadd C d_AL_add2_45 46 rfl ?_
    refine xr_iload_n C d_AL_add2_46 47 rfl rfl ?_
    refine xr_iload_n C d_AL_add2_47 48 rfl rfl ?_
    refine xr_isub C d_AL_add2_48 49 rfl ?_
    refine xr_toi (pk_sub hj) ?_
    refine xG.eqS (show _ = [Value.int (nI (as.length - j)), Value.int (nI (j + 1)), Value.ref q, Value.int (nI j), Value.ref q] from by rw [nI_one] <;> rfl) ?_
    refine xr_copyq C d_AL_add2_49 52 rfl q_301 w_copy hX2 hX2 (by omega) (by omega) (by omega) (by omega) (by omega) (Nat.le_of_ble_eq_true rfl) (fun i hi z hz => xLi.el (D := E.D) hf' ho2 (j + i) (by omega) z hz) ?_
    refine xr_aload C d_AL_add2_52 54 rfl rfl ?_
    refine xr_iload_n C d_AL_add2_54 55 rfl rfl ?_
    refine xr_aload_n C d_AL_add2_55 56 rfl rfl ?_
    refine xr_aast C d_AL_add2_56 57 rfl xup_self rfl (by omega) (by omega) o1 o2 o3 ?_
    refine xG.eqX xup_up ?_
    refine xr_aload_n C d_AL_add2_57 58 rfl rfl ?_
    refine xr_iload_n C d_AL_add2_58 59 rfl rfl ?_
    refine xr_iconst (v := 1) C d_AL_add2_59 60 rfl (by decide) ?_
    refine xr_iadd C d_AL_add2_60 61 rfl ?_
    refine xr_toi (nI_one _) ?_
    refine xr_put C K_AL 2 d_AL_add2_61 64 rfl q_58 (Or.inl rfl) rfl rfl rfl rfl ((xup_ne (Ne.symm hqa)).trans xup_self) rfl rfl ?_
    refine xr_vret C d_AL_add2_64 (by omega) (by omega) ?_
    rw [if_neg (Nat.lt_irrefl _), ← h7]
    refine ⟨rfl, q, ⟨mo + 1, va_up (va_cpy f' f' j (j + 1) (as.length - j)) j (some v), ?_, (xup_ne hqa).trans xup_self, ?_, h5, fun h0 => absurd h0 (by omega), fun i hi => ?_⟩, ?_, Or.inr ?_⟩
    · rw [insAt_length hj]
      exact xup_self
    · rw [insAt_length hj]
      omega
    · rw [insAt_length hj] at hi
      rw [getD_ins hj]
      by_cases h : i < j
      · rw [if_pos h, va_up_ne _ _ (by omega), pk_cpy_out (by omega)]
        exact hf' i (by omega)
      · rw [if_neg h]
        by_cases h2 : i = j
        · subst h2
          rw [if_pos rfl]
          exact va_up_self _ _ _
        · rw [if_neg h2, va_up_ne _ _ h2, pk_cpy_in (by omega) (by omega), show j + (i - (j + 1)) = i - 1 by omega]
          exact hf' (i - 1) (by omega)
    · exact hfr1.trans ((((xFr.rf.fresh h2).at ha1 (fun z => z) (by simp)).fresh h2).at ha1 (fun z => z) (by simp))
    · rw [hX1, xup_ne hqa] at h2
      exact h2
