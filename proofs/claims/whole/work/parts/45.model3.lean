/-! The model: put, swap, remove. -/
abbrev pOK (es : List Es) (k v : List Int32) : Prop := (hasK es k ∧ uns (es.set (fnb es k) ((eD es (fnb es k)).1, v)) ≤ 700) ∨ (¬ hasK es k ∧ es.length < 128 ∧ uns es + un (k, v) ≤ 700)
/-- the other machine's keys are as they were -/
def oth (m : Nat) (s s' : MS) : Prop := ∀ q es, q < 2 → q ≠ m → es.length ≤ 128 → rE s q es → rE s' q es
theorem oth.rf {m : Nat} {s : MS} : oth m s s := fun _ _ _ _ _ h => h
theorem oth.trans {m : Nat} {s s' s'' : MS} (h1 : oth m s s') (h2 : oth m s' s'') : oth m s s'' := fun q es a b c h => h2 q es a b c (h1 q es a b c h)
theorem oth.fr {m : Nat} {s s' : MS} {a : List Nat} (hf : mFr a s s') (h1 : 8 ∉ a ∧ 9 ∉ a ∧ 10 ∉ a ∧ 11 ∉ a ∧ 12 ∉ a) : oth m s s' := fun _ _ _ _ _ h => h.fr hf h1
theorem num1 (v : Int32) : num v 1 = [nby v 0] := rfl
theorem pOK_dec (es : List Es) (k v : List Int32) : hasK es k → (putK es k v = if uns (es.set (fnb es k) ((eD es (fnb es k)).1, v)) ≤ 700 then (es.set (fnb es k) ((eD es (fnb es k)).1, v), num 1 1 ++ (eD es (fnb es k)).2) else (es, num 2 1)) := fun h => if_pos h
set_option maxRecDepth 100000 in
set_option maxHeartbeats 4000000 in
theorem c_Mo_put {l : Launch} {D : va_G} {H0 : Heap} {X0 : xH} {A : Nat → Nat} {s : MS} (hA : mInj A) {m f n : Nat} {es : List Es} {key ts : List Int32} (hm : m < 2) (hE : rE s m es) (hok : okM es) (hB : okB es) (hq : qS s key) (hqb : isbs key) (hq32 : key.length ≤ 32) (hT : rT s ts) (hf : f + n ≤ ts.length) (hn : n ≤ 100) : xMet l D H0 y_Mo_put b_Mo_put 9 (some .boolean) [] 2 0 0 [.ref (A 0), .int (nI m), .int (nI f), .int (nI n)] (mX D X0 A s) (fun o X' => ∃ b : Int32, o = .inl (some (.int b)) ∧ (b = 0 ∨ b = 1) ∧ (b = 1 ↔ pOK es key (sl ts f (f + n))) ∧ ∃ s', X' = mX D X0 A s' ∧ mFr [8, 9, 10, 11, 12] s s' ∧ rE s' m (putK es key (sl ts f (f + n))).1 ∧ oth m s s') := by
  have hal := hok.1
  have hus := hok.2.1
  have h300 := hT.1
  have hfl := fnb_le key es
  have hvl : (sl ts f (f + n)).length = n := by rw [sl_len hf]; omega
  obtain ⟨j, hj⟩ : ∃ j, j = fnb es key := ⟨_, rfl⟩
  have hun : un (key, (sl ts f (f + n))) = (key.length + n + 15) / 16 := by
    unfold un
    show (key.length + (sl ts f (f + n)).length + 15) / 16 = _
    rw [hvl]
  refine ⟨[some (.ref (A 0)), some (.int (nI m)), some (.int (nI f)), some (.int (nI n)), none, none, none, none, none], rfl, Nat.le_of_ble_eq_true rfl, fun E hD hH hl _ C => ?_⟩
  subst hD
  subst hH
  subst hl
  have fail : ∀ (a b : Int32) (c : Option Value), ¬ pOK es key (sl ts f (f + n)) → (putK es key (sl ts f (f + n))).1 = es → xG E (mX E.D X0 A s) 0 0 96 [some (.ref (A 0)), some (.int (nI m)), some (.int (nI f)), some (.int (nI n)), some (.int (nI j)), some (.int a), some (.int (nI (128 * m + j))), some (.int b), c] [] := by
    intro a b c h1 h2
    refine xr_iconst (v := 0) C d_Mo_put_96 97 rfl (by decide) ?_
    refine xr_zret C d_Mo_put_97 rfl (by omega) (by omega) ⟨0, rfl, Or.inl rfl, ⟨fun h => absurd h (by decide), fun h => absurd h h1⟩, s, rfl, mFr.rf, ?_, oth.rf⟩
    rw [h2]
    exact hE
  have t195 : ∀ (y : MS) (es1 : List Es) (a b : Int32) (c : Option Value), mFr [8, 9, 10, 11, 12] s y → y.2.1 8 m = nI es1.length → j < es1.length → es1.length ≤ 128 → (∀ i, i < es1.length → i ≠ j → eSlot y (128 * m + i) (eD es1 i)) → kSlot y (128 * m + j) (eD es1 j).1 → (eD es1 j).2 = (sl ts f (f + n)) → oth m s y → (∀ q v, vSlot y q v → vSlot y q v) → pOK es key (sl ts f (f + n)) → (putK es key (sl ts f (f + n))).1 = es1 → xG E (mX E.D X0 A y) 0 0 195 [some (.ref (A 0)), some (.int (nI m)), some (.int (nI f)), some (.int (nI n)), some (.int (nI j)), some (.int a), some (.int (nI (128 * m + j))), some (.int b), c] [] := by
    intro y es1 a b c y1 y2 y3 y4 y5 y6 y7 y8 _ y9 y10
    have hTy := hT.fr y1 (by decide)
    refine xr_aload_n C d_Mo_put_195 196 rfl rfl ?_
    refine xr_iload C d_Mo_put_196 198 rfl rfl ?_
    refine xr_iload_n C d_Mo_put_198 199 rfl rfl ?_
    refine xr_iload_n C d_Mo_put_199 200 rfl rfl ?_
    refine xr_callV C (c_Mo_setValue hA (by omega) hTy hf (by omega)) k_Mo_setValue d_Mo_put_200 203 rfl (mX_o hA) rfl (Or.inl q_1111) v_Mo_setValue e_Mo_setValue h_Mo_setValue rfl ⟨Nat.le_of_ble_eq_true rfl, Nat.le_of_ble_eq_true rfl, Nat.le_of_ble_eq_true rfl⟩ (by omega) (by omega) (fun v9 X9 hP => ?_) (fun _ _ h => absurd h.1 (by simp))
    obtain ⟨h1, y9s, rfl, z1, z2, z3⟩ := hP
    cases h1
    refine xr_iconst (v := 1) C d_Mo_put_203 204 rfl (by decide) ?_
    refine xr_zret C d_Mo_put_204 rfl (by omega) (by omega) ⟨1, rfl, Or.inr rfl, ⟨fun _ => y9, fun _ => rfl⟩, y9s, rfl, y1.trans (z1.mono (by decide)), ?_, y8.trans (fun q es2 q1 q2 q3 q4 => ?_)⟩
    · rw [y10]
      refine ⟨by rw [(z1 8 (by decide)).2.1]; exact y2, fun i hi => ?_⟩
      by_cases e : i = j
      · subst e
        refine ⟨y6.fr z1 (by decide) (by decide), ?_⟩
        rw [y7]
        exact z2
      · exact ⟨(y5 i hi e).1.fr z1 (by decide) (by decide), z3 _ _ (by omega) (y5 i hi e).2⟩
    · exact ⟨by rw [(z1 8 (by decide)).2.1]; exact q4.1, fun i hi => ⟨(q4.2 i hi).1.fr z1 (by decide) (by decide), z3 _ _ (by omega) (q4.2 i hi).2⟩⟩
  refine xr_aload_n C d_Mo_put_0 1 rfl rfl ?_
  refine xr_iload_n C d_Mo_put_1 2 rfl rfl ?_
  refine xr_callV C (c_Mo_below hA hm hE hok hq hq32) k_Mo_below d_Mo_put_2 5 rfl (mX_o hA) rfl (Or.inl q_1076) v_Mo_below e_Mo_below h_Mo_below rfl ⟨Nat.le_of_ble_eq_true rfl, Nat.le_of_ble_eq_true rfl, Nat.le_of_ble_eq_true rfl⟩ (by omega) (by omega) (fun v9 X9 hP => ?_) (fun _ _ h => absurd h.1 (by simp))
  obtain ⟨h1, rfl⟩ := hP
  cases h1
  rw [← hj] at hfl ⊢
  refine xr_istore C d_Mo_put_5 7 rfl rfl rfl ?_
  refine xr_aload_n C d_Mo_put_7 8 rfl rfl ?_
  refine xr_iload_n C d_Mo_put_8 9 rfl rfl ?_
  refine xr_iload C d_Mo_put_9 11 rfl rfl ?_
  refine xr_callV C (c_Mo_isAt hA hm hE hok hq hq32 (j := j) (by omega) hB hqb) k_Mo_isAt d_Mo_put_11 14 rfl (mX_o hA) rfl (Or.inl q_1084) v_Mo_isAt e_Mo_isAt h_Mo_isAt rfl ⟨Nat.le_of_ble_eq_true rfl, Nat.le_of_ble_eq_true rfl, Nat.le_of_ble_eq_true rfl⟩ (by omega) (by omega) (fun v9 X9 hP => ?_) (fun _ _ h => absurd h.1 (by simp))
  obtain ⟨h1, rfl⟩ := hP
  cases h1
  by_cases hc : j < es.length ∧ (eD es j).1 = key
  · have hh : hasK es key := by unfold hasK; rw [← hj]; exact hc
    have hpk := pOK_dec es key (sl ts f (f + n)) hh
    rw [← hj] at hpk
    have hek := hok.2.2 _ (eD_mem hc.1)
    have he1 := hek.2.1
    have he2 := hek.2.2
    have hsl := hE.2 j hc.1
    have hst := uns_set (e := ((eD es j).1, (sl ts f (f + n)))) hc.1
    rw [show un ((eD es j).1, (sl ts f (f + n))) = un (key, (sl ts f (f + n))) by rw [hc.2], hun] at hst
    have huj : un (eD es j) = ((eD es j).1.length + (eD es j).2.length + 15) / 16 := rfl
    have hur := uns_erase hc.1
    refine xr_toi (if_pos hc) ?_
    refine xr_istore C d_Mo_put_14 16 rfl rfl rfl ?_
    refine xr_sipush (v := 128) C d_Mo_put_16 19 rfl (by decide) ?_
    refine xr_iload_n C d_Mo_put_19 20 rfl rfl ?_
    refine xr_imul C d_Mo_put_20 21 rfl ?_
    refine xr_toi (show _ = nI (128 * m) from pk_mul 128 m) ?_
    refine xr_iload C d_Mo_put_21 23 rfl rfl ?_
    refine xr_iadd C d_Mo_put_23 24 rfl ?_
    refine xr_toi (show _ = nI ((128 * m) + j) from nI_add (128 * m) j) ?_
    refine xr_istore C d_Mo_put_24 26 rfl rfl rfl ?_
    refine xr_aload_n C d_Mo_put_26 27 rfl rfl ?_
    refine xr_iload_n C d_Mo_put_27 28 rfl rfl ?_
    refine xr_callV C (c_Mo_units hA hm hE hok) k_Mo_units d_Mo_put_28 31 rfl (mX_o hA) rfl (Or.inl q_1100) v_Mo_units e_Mo_units h_Mo_units rfl ⟨Nat.le_of_ble_eq_true rfl, Nat.le_of_ble_eq_true rfl, Nat.le_of_ble_eq_true rfl⟩ (by omega) (by omega) (fun v9 X9 hP => ?_) (fun _ _ h => absurd h.1 (by simp))
    obtain ⟨h1, rfl⟩ := hP
    cases h1
    refine xr_aload_n C d_Mo_put_31 32 rfl rfl ?_
    refine xr_get C K_Mo 16 d_Mo_put_32 35 rfl q_956 (Or.inl rfl) rfl (mX_o hA) rfl ?_
    refine xr_toi (show _ = nI key.length from hq.1) ?_
    refine xr_iload_n C d_Mo_put_35 36 rfl rfl ?_
    refine xr_iadd C d_Mo_put_36 37 rfl ?_
    refine xr_toi (show _ = nI (key.length + n) from nI_add key.length n) ?_
    refine xr_callS C (c_Mo_unitsOf (n := key.length + n) (by omega)) k_Mo_unitsOf d_Mo_put_37 40 rfl (Or.inl q_1104) s_Mo_unitsOf in_Mo_unitsOf h_Mo_unitsOf rfl ⟨Nat.le_of_ble_eq_true rfl, Nat.le_of_ble_eq_true rfl, Nat.le_of_ble_eq_true rfl⟩ (by omega) (by omega) (fun v9 X9 hP => ?_) (fun _ _ h => absurd h.1 (by simp))
    obtain ⟨h1, rfl⟩ := hP
    cases h1
    refine xr_iadd C d_Mo_put_40 41 rfl ?_
    refine xr_toi (show _ = nI ((uns es) + ((key.length + n + 15) / 16)) from nI_add (uns es) ((key.length + n + 15) / 16)) ?_
    refine xr_iload C d_Mo_put_41 43 rfl rfl ?_
    refine xr_if_eq C d_Mo_put_43 46 67 rfl (by decide) (fun h => absurd h (by decide)) (fun _ => ?_)
    refine xr_aload_n C d_Mo_put_46 47 rfl rfl ?_
    refine xr_get C K_Mo 9 d_Mo_put_47 50 rfl q_949 (Or.inl rfl) rfl (mX_o hA) rfl ?_
    refine xr_iload C d_Mo_put_50 52 rfl rfl ?_
    refine xr_iald (j := ((128 * m) + j)) C d_Mo_put_52 53 rfl (mX_9 hA) rfl (by omega) (by omega) ?_
    refine xr_toi (show _ = nI ((eD es j).1.length) from hsl.1.1) ?_
    refine xr_aload_n C d_Mo_put_53 54 rfl rfl ?_
    refine xr_get C K_Mo 11 d_Mo_put_54 57 rfl q_951 (Or.inl rfl) rfl (mX_o hA) rfl ?_
    refine xr_iload C d_Mo_put_57 59 rfl rfl ?_
    refine xr_iald (j := ((128 * m) + j)) C d_Mo_put_59 60 rfl (mX_11 hA) rfl (by omega) (by omega) ?_
    refine xr_toi (show _ = nI ((eD es j).2.length) from hsl.2.1) ?_
    refine xr_iadd C d_Mo_put_60 61 rfl ?_
    refine xr_toi (show _ = nI (((eD es j).1.length) + ((eD es j).2.length)) from nI_add ((eD es j).1.length) ((eD es j).2.length)) ?_
    refine xr_callS C (c_Mo_unitsOf (n := (eD es j).1.length + (eD es j).2.length) (by omega)) k_Mo_unitsOf d_Mo_put_61 64 rfl (Or.inl q_1104) s_Mo_unitsOf in_Mo_unitsOf h_Mo_unitsOf rfl ⟨Nat.le_of_ble_eq_true rfl, Nat.le_of_ble_eq_true rfl, Nat.le_of_ble_eq_true rfl⟩ (by omega) (by omega) (fun v9 X9 hP => ?_) (fun _ _ h => absurd h.1 (by simp))
    obtain ⟨h1, rfl⟩ := hP
    cases h1
    refine xr_goto C d_Mo_put_64 68 (by decide) ?_
    refine xr_isub C d_Mo_put_68 69 rfl ?_
    refine xr_toi (show _ = nI (uns (es.set j ((eD es j).1, (sl ts f (f + n))))) from (pk_sub (by omega)).trans (by congr 1; omega)) ?_
    refine xr_istore C d_Mo_put_69 71 rfl rfl rfl ?_
    refine xr_iload C d_Mo_put_71 73 rfl rfl ?_
    refine xr_sipush (v := 700) C d_Mo_put_73 76 rfl (by decide) ?_
    refine xr_toi (show _ = nI 700 from rfl) ?_
    refine xr_icmp_gt C d_Mo_put_76 79 96 rfl (by decide) (fun h76 => ?_) (fun h76 => ?_)
    · have hno : ¬ uns (es.set j ((eD es j).1, (sl ts f (f + n)))) ≤ 700 := fun h => nI_nlt h (by omega) h76
      refine fail _ _ _ (fun h => ?_) (by rw [hpk, if_neg hno])
      rcases h with h | h
      · rw [← hj] at h
        exact hno h.2
      · exact h.1 hh
    · have hyes : uns (es.set j ((eD es j).1, (sl ts f (f + n)))) ≤ 700 := by
        rcases Nat.lt_or_ge 700 (uns (es.set j ((eD es j).1, (sl ts f (f + n))))) with h | h
        · exact absurd (nI_lt h (by omega)) h76
        · exact h
      refine xr_iload C d_Mo_put_79 81 rfl rfl ?_
      refine xr_if_ne C d_Mo_put_81 84 98 rfl (by decide) (fun _ => ?_) (fun h => absurd h (by decide))
      refine xr_iload C d_Mo_put_98 100 rfl rfl ?_
      refine xr_if_ne C d_Mo_put_100 103 195 rfl (by decide) (fun _ => ?_) (fun h => absurd h (by decide))
      have eset : ∀ i, eD (es.set j ((eD es j).1, (sl ts f (f + n)))) i = if i = j then ((eD es j).1, (sl ts f (f + n))) else eD es i := fun i => getDg_set hc.1
      refine t195 s (es.set j ((eD es j).1, (sl ts f (f + n)))) _ _ _ mFr.rf (by rw [List.length_set]; exact hE.1) (by rw [List.length_set]; exact hc.1) (by rw [List.length_set]; exact hal) (fun i hi hne => ?_) (by rw [eset, if_pos rfl]; exact hsl.1) (by rw [eset, if_pos rfl]) oth.rf (fun _ _ h => h) (Or.inl ⟨hh, by rw [← hj]; exact hyes⟩) (by rw [hpk, if_pos hyes])
      rw [List.length_set] at hi
      rw [eset, if_neg hne]
      exact hE.2 i hi
  · have hh : ¬ hasK es key := by unfold hasK; rw [← hj]; exact hc
    have hpk : putK es key (sl ts f (f + n)) = if es.length < 128 ∧ uns es + un (key, (sl ts f (f + n))) ≤ 700 then (insAt es j (key, (sl ts f (f + n))), num 0 1) else (es, num 2 1) := by
      rw [hj]
      exact if_neg hh
    refine xr_toi (if_neg hc) ?_
    refine xr_istore C d_Mo_put_14 16 rfl rfl rfl ?_
    refine xr_sipush (v := 128) C d_Mo_put_16 19 rfl (by decide) ?_
    refine xr_iload_n C d_Mo_put_19 20 rfl rfl ?_
    refine xr_imul C d_Mo_put_20 21 rfl ?_
    refine xr_toi (show _ = nI (128 * m) from pk_mul 128 m) ?_
    refine xr_iload C d_Mo_put_21 23 rfl rfl ?_
    refine xr_iadd C d_Mo_put_23 24 rfl ?_
    refine xr_toi (show _ = nI ((128 * m) + j) from nI_add (128 * m) j) ?_
    refine xr_istore C d_Mo_put_24 26 rfl rfl rfl ?_
    refine xr_aload_n C d_Mo_put_26 27 rfl rfl ?_
    refine xr_iload_n C d_Mo_put_27 28 rfl rfl ?_
    refine xr_callV C (c_Mo_units hA hm hE hok) k_Mo_units d_Mo_put_28 31 rfl (mX_o hA) rfl (Or.inl q_1100) v_Mo_units e_Mo_units h_Mo_units rfl ⟨Nat.le_of_ble_eq_true rfl, Nat.le_of_ble_eq_true rfl, Nat.le_of_ble_eq_true rfl⟩ (by omega) (by omega) (fun v9 X9 hP => ?_) (fun _ _ h => absurd h.1 (by simp))
    obtain ⟨h1, rfl⟩ := hP
    cases h1
    refine xr_aload_n C d_Mo_put_31 32 rfl rfl ?_
    refine xr_get C K_Mo 16 d_Mo_put_32 35 rfl q_956 (Or.inl rfl) rfl (mX_o hA) rfl ?_
    refine xr_toi (show _ = nI key.length from hq.1) ?_
    refine xr_iload_n C d_Mo_put_35 36 rfl rfl ?_
    refine xr_iadd C d_Mo_put_36 37 rfl ?_
    refine xr_toi (show _ = nI (key.length + n) from nI_add key.length n) ?_
    refine xr_callS C (c_Mo_unitsOf (n := key.length + n) (by omega)) k_Mo_unitsOf d_Mo_put_37 40 rfl (Or.inl q_1104) s_Mo_unitsOf in_Mo_unitsOf h_Mo_unitsOf rfl ⟨Nat.le_of_ble_eq_true rfl, Nat.le_of_ble_eq_true rfl, Nat.le_of_ble_eq_true rfl⟩ (by omega) (by omega) (fun v9 X9 hP => ?_) (fun _ _ h => absurd h.1 (by simp))
    obtain ⟨h1, rfl⟩ := hP
    cases h1
    refine xr_iadd C d_Mo_put_40 41 rfl ?_
    refine xr_toi (show _ = nI ((uns es) + ((key.length + n + 15) / 16)) from nI_add (uns es) ((key.length + n + 15) / 16)) ?_
    refine xr_iload C d_Mo_put_41 43 rfl rfl ?_
    refine xr_if_eq C d_Mo_put_43 46 67 rfl (by decide) (fun _ => ?_) (fun h => absurd rfl h)
    refine xr_iconst (v := 0) C d_Mo_put_67 68 rfl (by decide) ?_
    refine xr_isub C d_Mo_put_68 69 rfl ?_
    refine xr_toi (show _ = nI (((uns es) + ((key.length + n + 15) / 16)) - 0) from pk_sub (a := ((uns es) + ((key.length + n + 15) / 16))) (b := 0) (by omega)) ?_
    refine xr_istore C d_Mo_put_69 71 rfl rfl rfl ?_
    refine xr_iload C d_Mo_put_71 73 rfl rfl ?_
    refine xr_sipush (v := 700) C d_Mo_put_73 76 rfl (by decide) ?_
    refine xr_toi (show _ = nI 700 from rfl) ?_
    refine xr_icmp_gt C d_Mo_put_76 79 96 rfl (by decide) (fun h76 => ?_) (fun h76 => ?_)
    · have hno : ¬ uns es + un (key, (sl ts f (f + n))) ≤ 700 := fun h => nI_nlt (show uns es + (key.length + n + 15) / 16 - 0 ≤ 700 by omega) (by omega) h76
      refine fail _ _ _ (fun h => ?_) (by rw [hpk, if_neg (fun q => hno q.2)])
      rcases h with h | h
      · exact hh h.1
      · exact hno h.2.2
    have hyes : uns es + un (key, (sl ts f (f + n))) ≤ 700 := by
      rcases Nat.lt_or_ge 700 (uns es + un (key, (sl ts f (f + n)))) with h | h
      · exact absurd (nI_lt (show 700 < uns es + (key.length + n + 15) / 16 - 0 by omega) (by omega)) h76
      · exact h
    refine xr_iload C d_Mo_put_79 81 rfl rfl ?_
    refine xr_if_ne C d_Mo_put_81 84 98 rfl (by decide) (fun h => absurd rfl h) (fun _ => ?_)
    refine xr_aload_n C d_Mo_put_84 85 rfl rfl ?_
    refine xr_get C K_Mo 8 d_Mo_put_85 88 rfl q_948 (Or.inl rfl) rfl (mX_o hA) rfl ?_
    refine xr_iload_n C d_Mo_put_88 89 rfl rfl ?_
    refine xr_iald (j := m) C d_Mo_put_89 90 rfl (mX_8 hA) rfl (by omega) (by omega) ?_
    refine xr_toi (show _ = nI es.length from hE.1) ?_
    refine xr_sipush (v := 128) C d_Mo_put_90 93 rfl (by decide) ?_
    refine xr_toi (show _ = nI 128 from rfl) ?_
    refine xr_icmp_ne C d_Mo_put_93 96 98 rfl (by decide) (fun h93 => ?_) (fun h93 => ?_)
    rotate_left
    · have h128 : es.length = 128 := (nI_eq (by omega) (by omega)).mp h93
      refine fail _ _ _ (fun h => ?_) (by rw [hpk, if_neg (fun q => by omega)])
      rcases h with h | h
      · exact hh h.1
      · omega
    have h128 : es.length < 128 := by
      rcases Nat.lt_or_ge es.length 128 with h | h
      · exact h
      · exact absurd (show nI es.length = nI 128 by congr 1; omega) h93
    have hins : (putK es key (sl ts f (f + n))).1 = insAt es j (key, (sl ts f (f + n))) := by rw [hpk, if_pos ⟨h128, hyes⟩]
    have hpok : pOK es key (sl ts f (f + n)) := Or.inr ⟨hh, h128, hyes⟩
    refine xr_iload C d_Mo_put_98 100 rfl rfl ?_
    refine xr_if_ne C d_Mo_put_100 103 195 rfl (by decide) (fun h => absurd rfl h) (fun _ => ?_)
    refine xr_sipush (v := 128) C d_Mo_put_103 106 rfl (by decide) ?_
    refine xr_iload_n C d_Mo_put_106 107 rfl rfl ?_
    refine xr_imul C d_Mo_put_107 108 rfl ?_
    refine xr_toi (show _ = nI (128 * m) from pk_mul 128 m) ?_
    refine xr_aload_n C d_Mo_put_108 109 rfl rfl ?_
    refine xr_get C K_Mo 8 d_Mo_put_109 112 rfl q_948 (Or.inl rfl) rfl (mX_o hA) rfl ?_
    refine xr_iload_n C d_Mo_put_112 113 rfl rfl ?_
    refine xr_iald (j := m) C d_Mo_put_113 114 rfl (mX_8 hA) rfl (by omega) (by omega) ?_
    refine xr_toi (show _ = nI es.length from hE.1) ?_
    refine xr_iadd C d_Mo_put_114 115 rfl ?_
    refine xr_toi (show _ = nI ((128 * m) + es.length) from nI_add (128 * m) es.length) ?_
    refine xr_istore C d_Mo_put_115 117 rfl rfl rfl ?_
    have einsD : ∀ i, eD (insAt es j (key, (sl ts f (f + n)))) i = if i < j then eD es i else if i = j then (key, (sl ts f (f + n))) else eD es (i - 1) := fun i => getDg_ins hfl
    have loopK : ∀ (r i : Nat) (b : Int32) (z1 z : MS), i + r = 4 → mFr [8, 9, 10, 11, 12] s z → z.2.1 8 m = nI (es.length + 1) → z.2.1 9 (128 * m + j) = nI key.length → (∀ q, q < i → z.2.2 10 (4 * (128 * m + j) + q) = kW key q) → (∀ q, q < es.length + 1 → q ≠ j → eSlot z (128 * m + q) (eD (insAt es j (key, (sl ts f (f + n)))) q)) → oth m s z → xG E (mX E.D X0 A z) 0 0 164 [some (.ref (A 0)), some (.int (nI m)), some (.int (nI f)), some (.int (nI n)), some (.int (nI j)), some (.int 0), some (.int (nI (128 * m + j))), some (.int b), some (.int (nI i))] [] := by
      intro r
      induction r with
      | zero =>
        intro i b z1 z hi k1 k2 k3 k4 k5 k6
        have ei : i = 4 := by omega
        subst ei
        refine xr_iload C d_Mo_put_164 166 rfl rfl ?_
        refine xr_iconst (v := 4) C d_Mo_put_166 167 rfl (by decide) ?_
        refine xr_toi (show _ = nI 4 from rfl) ?_
        refine xr_icmp_ge C d_Mo_put_167 170 195 rfl (by decide) (fun _ => ?_) (fun h => absurd (nI_le (Nat.le_refl _) (by omega)) h)
        refine t195 z (insAt es j (key, (sl ts f (f + n)))) _ _ _ k1 (by rw [insAt_length hfl]; exact k2) (by rw [insAt_length hfl]; omega) (by rw [insAt_length hfl]; omega) (fun i hi hne => k5 i (by rw [insAt_length hfl] at hi; exact hi) hne) ⟨?_, fun q hq => ?_⟩ (by rw [einsD, if_neg (by omega), if_pos rfl]) k6 (fun _ _ h => h) hpok hins
        · rw [einsD, if_neg (by omega), if_pos rfl]
          exact k3
        · rw [einsD, if_neg (by omega), if_pos rfl]
          exact k4 q hq
      | succ r ih =>
        intro i b z1 z hi k1 k2 k3 k4 k5 k6
        have hqz := hq.fr k1 (by decide)
        refine xr_iload C d_Mo_put_164 166 rfl rfl ?_
        refine xr_iconst (v := 4) C d_Mo_put_166 167 rfl (by decide) ?_
        refine xr_toi (show _ = nI 4 from rfl) ?_
        refine xr_icmp_ge C d_Mo_put_167 170 195 rfl (by decide) (fun h => absurd h (nI_ge (show i < 4 by omega) (by omega))) (fun _ => ?_)
        refine xr_aload_n C d_Mo_put_170 171 rfl rfl ?_
        refine xr_get C K_Mo 10 d_Mo_put_171 174 rfl q_950 (Or.inl rfl) rfl (mX_o hA) rfl ?_
        refine xr_iconst (v := 4) C d_Mo_put_174 175 rfl (by decide) ?_
        refine xr_iload C d_Mo_put_175 177 rfl rfl ?_
        refine xr_imul C d_Mo_put_177 178 rfl ?_
        refine xr_toi (show _ = nI (4 * (128 * m + j)) from pk_mul 4 (128 * m + j)) ?_
        refine xr_iload C d_Mo_put_178 180 rfl rfl ?_
        refine xr_iadd C d_Mo_put_180 181 rfl ?_
        refine xr_toi (show _ = nI ((4 * (128 * m + j)) + i) from nI_add (4 * (128 * m + j)) i) ?_
        refine xr_aload_n C d_Mo_put_181 182 rfl rfl ?_
        refine xr_get C K_Mo 17 d_Mo_put_182 185 rfl q_957 (Or.inl rfl) rfl (mX_o hA) rfl ?_
        refine xr_iload C d_Mo_put_185 187 rfl rfl ?_
        refine xr_lald (j := i) C d_Mo_put_187 188 rfl (mX_17 hA) rfl (by omega) (by omega) ?_
        refine xr_tol (show _ = kW key i from hqz.2 i (by omega)) ?_
        refine xr_last (j := ((4 * (128 * m + j)) + i)) C d_Mo_put_188 189 rfl (mX_10 hA) rfl (by omega) (by omega) ?_
        obtain ⟨y, hy⟩ : ∃ zz9, zz9 = setL z 10 ((4 * (128 * m + j)) + i) (kW key i) := ⟨_, rfl⟩
        refine xG.eqX (show _ = mX E.D X0 A y from (mX_s10 (v := (kW key i)) hA).trans (by rw [hy])) ?_
        refine xr_iinc (v := 1) C d_Mo_put_189 192 rfl rfl rfl rfl (by decide) ?_
        refine xr_goto C d_Mo_put_192 164 (by decide) ?_
        refine xG.eqL (show _ = [some (Value.ref (A 0)), some (Value.int (nI m)), some (Value.int (nI f)), some (Value.int (nI n)), some (Value.int (nI j)), some (Value.int 0), some (Value.int (nI (128 * m + j))), some (Value.int b), some (Value.int (nI (i + 1)))] by rw [← nI_one]; rfl) ?_
        refine ih (i + 1) b z1 y (by omega) (by rw [hy]; exact k1.trans (mFr_L (by decide))) (by rw [hy]; exact k2) (by rw [hy]; exact k3) (fun q hq => ?_) (fun q hq hne => ⟨⟨by rw [hy]; exact (k5 q hq hne).1.1, fun j9 hj9 => ?_⟩, ⟨by rw [hy]; exact (k5 q hq hne).2.1, fun j9 hj9 => ?_⟩⟩) (k6.trans (fun q es2 q1 q2 q3 q4 => ⟨by rw [hy]; exact q4.1, fun i9 hi9 => ⟨⟨by rw [hy]; exact (q4.2 i9 hi9).1.1, fun j9 hj9 => ?_⟩, ⟨by rw [hy]; exact (q4.2 i9 hi9).2.1, fun j9 hj9 => ?_⟩⟩⟩))
        · rw [hy, setL_L]
          by_cases e : q = i
          · rw [if_pos ⟨rfl, by omega⟩, e]
          · rw [if_neg (by omega)]
            exact k4 q (by omega)
        · rw [hy, setL_L, if_neg (by omega)]
          exact (k5 q hq hne).1.2 j9 hj9
        · rw [hy, setL_L, if_neg (by omega)]
          exact (k5 q hq hne).2.2 j9 hj9
        · rw [hy, setL_L, if_neg (by omega)]
          exact (q4.2 i9 hi9).1.2 j9 hj9
        · rw [hy, setL_L, if_neg (by omega)]
          exact (q4.2 i9 hi9).2.2 j9 hj9
    have loopS : ∀ (r c : Nat) (b : Int32) (z : MS), c = j + r → c ≤ es.length → mFr [8, 9, 10, 11, 12] s z → z.2.1 8 = s.2.1 8 → (∀ i, i < c → i < es.length → eSlot z (128 * m + i) (eD es i)) → (∀ i, c < i → i ≤ es.length → eSlot z (128 * m + i) (eD es (i - 1))) → oth m s z → xG E (mX E.D X0 A z) 0 0 117 [some (.ref (A 0)), some (.int (nI m)), some (.int (nI f)), some (.int (nI n)), some (.int (nI j)), some (.int 0), some (.int (nI (128 * m + j))), some (.int b), some (.int (nI (128 * m + c)))] [] := by
      intro r
      induction r with
      | zero =>
        intro c b z hc0 hcl k1 k2 k3 k4 k5
        have ec : c = j := by omega
        subst ec
        refine xr_iload C d_Mo_put_117 119 rfl rfl ?_
        refine xr_iload C d_Mo_put_119 121 rfl rfl ?_
        refine xr_icmp_le C d_Mo_put_121 124 140 rfl (by decide) (fun _ => ?_) (fun h => absurd (nI_le (Nat.le_refl _) (by omega)) h)
        have hqz := hq.fr k1 (by decide)
        refine xr_aload_n C d_Mo_put_140 141 rfl rfl ?_
        refine xr_get C K_Mo 8 d_Mo_put_141 144 rfl q_948 (Or.inl rfl) rfl (mX_o hA) rfl ?_
        refine xr_iload_n C d_Mo_put_144 145 rfl rfl ?_
        refine xr_dup2_11 C d_Mo_put_145 146 rfl rfl rfl ?_
        refine xr_iald (j := m) C d_Mo_put_146 147 rfl (mX_8 hA) rfl (by omega) (by omega) ?_
        refine xr_toi (show _ = nI es.length from (by rw [k2]; exact hE.1)) ?_
        refine xr_iconst (v := 1) C d_Mo_put_147 148 rfl (by decide) ?_
        refine xr_iadd C d_Mo_put_148 149 rfl ?_
        refine xr_toi (show _ = nI (es.length + 1) from nI_add es.length 1) ?_
        refine xr_iast (j := m) C d_Mo_put_149 150 rfl (mX_8 hA) rfl (by omega) (by omega) ?_
        obtain ⟨y1, hy1⟩ : ∃ zz9, zz9 = setI z 8 m (nI (es.length + 1)) := ⟨_, rfl⟩
        refine xG.eqX (show _ = mX E.D X0 A y1 from (mX_s8 (v := (nI (es.length + 1))) hA).trans (by rw [hy1])) ?_
        refine xr_aload_n C d_Mo_put_150 151 rfl rfl ?_
        refine xr_get C K_Mo 9 d_Mo_put_151 154 rfl q_949 (Or.inl rfl) rfl (mX_o hA) rfl ?_
        refine xr_iload C d_Mo_put_154 156 rfl rfl ?_
        refine xr_aload_n C d_Mo_put_156 157 rfl rfl ?_
        refine xr_get C K_Mo 16 d_Mo_put_157 160 rfl q_956 (Or.inl rfl) rfl (mX_o hA) rfl ?_
        refine xr_toi (show _ = nI key.length from (show y1.1 16 = _ by rw [hy1]; exact hqz.1)) ?_
        refine xr_iast (j := (128 * m + c)) C d_Mo_put_160 161 rfl (mX_9 hA) rfl (by omega) (by omega) ?_
        obtain ⟨y2, hy2⟩ : ∃ zz9, zz9 = setI y1 9 (128 * m + c) (nI key.length) := ⟨_, rfl⟩
        refine xG.eqX (show _ = mX E.D X0 A y2 from (mX_s9 (v := (nI key.length)) hA).trans (by rw [hy2])) ?_
        refine xr_iconst (v := 0) C d_Mo_put_161 162 rfl (by decide) ?_
        refine xr_istore C d_Mo_put_162 164 rfl rfl rfl ?_
        refine loopK 4 0 b y2 y2 (by omega) (by rw [hy2, hy1]; exact (k1.trans (mFr_I (by decide))).trans (mFr_I (by decide))) (by rw [hy2, hy1, setI_I, if_neg (by omega), setI_I, if_pos ⟨rfl, rfl⟩]) (by rw [hy2, setI_I, if_pos ⟨rfl, rfl⟩]) (fun q hq => absurd hq (Nat.not_lt_zero _)) (fun q hq hne => ?_) (k5.trans (fun q es2 q1 q2 q3 q4 => ⟨by rw [hy2, hy1, setI_I, if_neg (by omega), setI_I, if_neg (by omega)]; exact q4.1, fun i9 hi9 => ⟨⟨by rw [hy2, hy1, setI_I, if_neg (by omega), setI_I, if_neg (by omega)]; exact (q4.2 i9 hi9).1.1, fun j9 hj9 => by rw [hy2, hy1]; exact (q4.2 i9 hi9).1.2 j9 hj9⟩, ⟨by rw [hy2, hy1, setI_I, if_neg (by omega), setI_I, if_neg (by omega)]; exact (q4.2 i9 hi9).2.1, fun j9 hj9 => by rw [hy2, hy1]; exact (q4.2 i9 hi9).2.2 j9 hj9⟩⟩⟩))
        have hz : eSlot z (128 * m + q) (eD (insAt es c (key, (sl ts f (f + n)))) q) := by
          rw [einsD]
          by_cases e : q < c
          · rw [if_pos e]
            exact k3 q e (by omega)
          · rw [if_neg e, if_neg hne]
            exact k4 q (by omega) (by omega)
        exact ⟨⟨by rw [hy2, hy1, setI_I, if_neg (by omega), setI_I, if_neg (by omega)]; exact hz.1.1, fun j9 hj9 => by rw [hy2, hy1]; exact hz.1.2 j9 hj9⟩, ⟨by rw [hy2, hy1, setI_I, if_neg (by omega), setI_I, if_neg (by omega)]; exact hz.2.1, fun j9 hj9 => by rw [hy2, hy1]; exact hz.2.2 j9 hj9⟩⟩
      | succ r ih =>
        intro c b z hc0 hcl k1 k2 k3 k4 k5
        refine xr_iload C d_Mo_put_117 119 rfl rfl ?_
        refine xr_iload C d_Mo_put_119 121 rfl rfl ?_
        refine xr_icmp_le C d_Mo_put_121 124 140 rfl (by decide) (fun h => absurd h (nI_ge (show 128 * m + j < 128 * m + c by omega) (by omega))) (fun _ => ?_)
        refine xr_aload_n C d_Mo_put_124 125 rfl rfl ?_
        refine xr_iload C d_Mo_put_125 127 rfl rfl ?_
        refine xr_iconst (v := 1) C d_Mo_put_127 128 rfl (by decide) ?_
        refine xr_isub C d_Mo_put_128 129 rfl ?_
        refine xr_toi (show _ = nI ((128 * m + c) - 1) from pk_sub (a := (128 * m + c)) (b := 1) (by omega)) ?_
        refine xr_iload C d_Mo_put_129 131 rfl rfl ?_
        refine xr_callV C (c_Mo_copyKey hA (f := 128 * m + c - 1) (t := 128 * m + c) (by omega) (by omega)) k_Mo_copyKey d_Mo_put_131 134 rfl (mX_o hA) rfl (Or.inl q_1107) v_Mo_copyKey e_Mo_copyKey h_Mo_copyKey rfl ⟨Nat.le_of_ble_eq_true rfl, Nat.le_of_ble_eq_true rfl, Nat.le_of_ble_eq_true rfl⟩ (by omega) (by omega) (fun v9 X9 hP => ?_) (fun _ _ h => absurd h.1 (by simp))
        obtain ⟨h1, y, rfl, z1, z2, z3⟩ := hP
        cases h1
        refine xr_iinc (v := (-1)) C d_Mo_put_134 137 rfl rfl rfl rfl (by decide) ?_
        refine xr_goto C d_Mo_put_137 117 (by decide) ?_
        refine xG.eqL (show _ = [some (Value.ref (A 0)), some (Value.int (nI m)), some (Value.int (nI f)), some (Value.int (nI n)), some (Value.int (nI j)), some (Value.int 0), some (Value.int (nI (128 * m + j))), some (Value.int b), some (Value.int (nI (128 * m + (c - 1))))] by rw [← show nI (128 * m + c) + (-1) = nI (128 * m + (c - 1)) by rw [show 128 * m + c = 128 * m + (c - 1) + 1 by omega]; exact pk_m1 _]; rfl) ?_
        refine ih (c - 1) b y (by omega) (by omega) (k1.trans (z1.mono (by decide))) (by rw [(z1 8 (by decide)).2.1]; exact k2) (fun i hi hil => z2 _ _ (by omega) (k3 i (by omega) hil)) (fun i hi hil => ?_) (k5.trans (fun q es2 q1 q2 q3 q4 => ⟨by rw [(z1 8 (by decide)).2.1]; exact q4.1, fun i9 hi9 => z2 _ _ (by omega) (q4.2 i9 hi9)⟩))
        by_cases e : i = c
        · subst e
          refine z3 _ ?_
          rw [show 128 * m + i - 1 = 128 * m + (i - 1) by omega]
          exact k3 (i - 1) (by omega) (by omega)
        · exact z2 _ _ (by omega) (k4 i (by omega) hil)
    exact loopS (es.length - j) es.length _ s (by omega) (Nat.le_refl _) mFr.rf rfl (fun i _ hi => hE.2 i hi) (fun i h1 h2 => absurd h1 (by omega)) oth.rf
