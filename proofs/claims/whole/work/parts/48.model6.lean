/-! The model's calls. -/
def mRel (s : MS) (S : St) : Prop := s.1 14 = nI S.1.length ∧ rT s S.1 ∧ (∀ m, m < 2 → rS s m (S.2.1 m).1 ∧ rE s m (S.2.1 m).2.1 ∧ s.2.1 13 m = (S.2.1 m).2.2) ∧ rR s S.2.2.1 ∧ s.1 20 = S.2.2.2
def wf (S : St) : Prop := (isbs S.1 ∧ S.1.length ≤ 300) ∧ ∀ m, m < 2 → okS (S.2.1 m).1 ∧ okM (S.2.1 m).2.1 ∧ okB (S.2.1 m).2.1 ∧ ∀ x ∈ (S.2.1 m).1, isbs x.2.2.2.2
def inv2 (S : St) : Prop := (∀ m, m < 2 → dst (S.2.1 m).1 (S.2.1 m).2.2) ∧ S.2.2.1.length ≤ 14400
theorem mRel.fr0 {s s' : MS} {S : St} (h : mRel s S) (hf : mFr [0] s s') : mRel s' S := by
  obtain ⟨h1, h2, h3, h4, h5⟩ := h
  exact ⟨by rw [(hf 14 (by decide)).1]; exact h1, h2.fr hf (by decide), fun m hm => ⟨(h3 m hm).1.fr hf (by decide), (h3 m hm).2.1.fr hf (by decide), by rw [(hf 13 (by decide)).2.1]; exact (h3 m hm).2.2⟩, h4.fr hf (by decide), by rw [(hf 20 (by decide)).1]; exact h5⟩
theorem mRel_f {s : MS} {S : St} {c : Int32} (h : mRel s S) : mRel (setS s 0 c) S := h.fr0 (mFr_S (by decide))
theorem km1 {k : Int32} {n : Nat} (hn : n < 2 ^ 30) : k ≤ nI n - 1 ↔ k < nI n := by
  show k ≤ nI n - nI 1 ↔ _
  rw [le_int rfl (sub2_int (a := n) (b := 1) (by omega) (by omega)), lt_int rfl (nI_int (show n < 2 ^ 31 by omega))]
  omega
set_option maxRecDepth 100000 in
set_option maxHeartbeats 4000000 in
theorem d_Mo_place {l : Launch} {D : va_G} {H0 : Heap} {X0 : xH} {A : Nat → Nat} {s : MS} (hA : mInj A) {S : St} (hR : mRel s S) (hW : wf S) (hV : inv2 S) : xMet l D H0 y_Mo_place b_Mo_place 1 (some .int) [] 0 0 0 [.ref (A 0)] (mX D X0 A s) (fun o X' => ∃ v : Int32, o = .inl (some (.int v)) ∧ ∃ s', X' = mX D X0 A s' ∧ s'.1 0 = nI (((0 : Nat), S.2.2.2)).1 ∧ ((((0 : Nat), S.2.2.2)).1 = 0 → v = (((0 : Nat), S.2.2.2)).2) ∧ mRel s' S) := by
  refine ⟨[some (.ref (A 0))], rfl, Nat.le_of_ble_eq_true rfl, fun E hD hH hl _ C => ?_⟩
  subst hD
  subst hH
  subst hl
  refine xr_aload_n C d_Mo_place_0 1 rfl rfl ?_
  refine xr_iconst (v := 0) C d_Mo_place_1 2 rfl (by decide) ?_
  refine xr_put C K_Mo 0 d_Mo_place_2 5 rfl q_940 (Or.inl rfl) rfl rfl rfl rfl (mX_o hA) rfl rfl ?_
  obtain ⟨z0, hz0⟩ : ∃ zz9, zz9 = setS s 0 (nI 0) := ⟨_, rfl⟩
  refine xG.eqX (show _ = mX E.D X0 A z0 from (mX_f0 (v := (nI 0)) hA).trans (by rw [hz0])) ?_
  have hR0 : mRel z0 S := by rw [hz0]; exact mRel_f hR
  have ht0 : z0.1 0 = 0 := by rw [hz0]; rfl
  refine xr_aload_n C d_Mo_place_5 6 rfl rfl ?_
  refine xr_get C K_Mo 20 d_Mo_place_6 9 rfl q_960 (Or.inl rfl) rfl (mX_o hA) rfl ?_
  exact xr_iret C d_Mo_place_9 (by omega) (by omega) ⟨_, rfl, z0, rfl, ht0, fun _ => hR0.2.2.2.2, hR0⟩
set_option maxRecDepth 100000 in
set_option maxHeartbeats 4000000 in
theorem d_Mo_byteAt {l : Launch} {D : va_G} {H0 : Heap} {X0 : xH} {A : Nat → Nat} {s : MS} (hA : mInj A) {S : St} (hR : mRel s S) (hW : wf S) (hV : inv2 S) {z : Int32} : xMet l D H0 y_Mo_byteAt b_Mo_byteAt 2 (some .int) [] 1 0 0 [.ref (A 0), .int z] (mX D X0 A s) (fun o X' => ∃ v : Int32, o = .inl (some (.int v)) ∧ ∃ s', X' = mX D X0 A s' ∧ s'.1 0 = nI (fByteAt S z).1 ∧ ((fByteAt S z).1 = 0 → v = (fByteAt S z).2) ∧ mRel s' S) := by
  refine ⟨[some (.ref (A 0)), some (.int z)], rfl, Nat.le_of_ble_eq_true rfl, fun E hD hH hl _ C => ?_⟩
  subst hD
  subst hH
  subst hl
  refine xr_aload_n C d_Mo_byteAt_0 1 rfl rfl ?_
  refine xr_iconst (v := 0) C d_Mo_byteAt_1 2 rfl (by decide) ?_
  refine xr_put C K_Mo 0 d_Mo_byteAt_2 5 rfl q_940 (Or.inl rfl) rfl rfl rfl rfl (mX_o hA) rfl rfl ?_
  obtain ⟨z0, hz0⟩ : ∃ zz9, zz9 = setS s 0 (nI 0) := ⟨_, rfl⟩
  refine xG.eqX (show _ = mX E.D X0 A z0 from (mX_f0 (v := (nI 0)) hA).trans (by rw [hz0])) ?_
  have hR0 : mRel z0 S := by rw [hz0]; exact mRel_f hR
  have ht0 : z0.1 0 = 0 := by rw [hz0]; rfl
  have hrl := hV.2
  have t17 : ¬ (0 ≤ z ∧ z < nI S.2.2.1.length) → xG E (mX E.D X0 A z0) 0 0 17 [some (.ref (A 0)), some (.int z)] [] := by
    intro h
    have hf : fByteAt S z = (1, 0) := if_neg h
    rw [hf] at C
    refine xr_aload_n C d_Mo_byteAt_17 18 rfl rfl ?_
    refine xr_iconst (v := 1) C d_Mo_byteAt_18 19 rfl (by decide) ?_
    refine xr_callV C (c_Mo_fail hA) k_Mo_fail d_Mo_byteAt_19 22 rfl (mX_o hA) rfl (Or.inl q_1023) v_Mo_fail e_Mo_fail h_Mo_fail rfl ⟨Nat.le_of_ble_eq_true rfl, Nat.le_of_ble_eq_true rfl, Nat.le_of_ble_eq_true rfl⟩ (by omega) (by omega) (fun v9 X9 hP => ?_) (fun _ _ h => absurd h.1 (by simp))
    obtain ⟨h1, rfl⟩ := hP
    cases h1
    exact xr_iret C d_Mo_byteAt_22 (by omega) (by omega) ⟨_, rfl, _, rfl, rfl, fun h => absurd h (show ¬ (1 : Nat) = 0 by decide), mRel_f hR0⟩
  refine xr_iload_n C d_Mo_byteAt_5 6 rfl rfl ?_
  refine xr_if_lt C d_Mo_byteAt_6 9 17 rfl (by decide) (fun h => t17 (fun q => absurd q.1 (Int32.not_le.mpr h))) (fun h0 => ?_)
  refine xr_iload_n C d_Mo_byteAt_9 10 rfl rfl ?_
  refine xr_aload_n C d_Mo_byteAt_10 11 rfl rfl ?_
  refine xr_get C K_Mo 21 d_Mo_byteAt_11 14 rfl q_961 (Or.inl rfl) rfl (mX_o hA) rfl ?_
  refine xr_toi (show _ = nI S.2.2.1.length from hR0.2.2.2.1.1) ?_
  refine xr_icmp_lt C d_Mo_byteAt_14 17 23 rfl (by decide) (fun h12 => ?_) (fun h => t17 (fun q => h q.2))
  obtain ⟨j, hj, rfl⟩ := nI_of h0
  have hj2 : j < S.2.2.1.length := (nI_ltI hj (by omega)).mp h12
  have hf : fByteAt S (nI j) = (0, u8 (S.2.2.1.getD j 0)) := by
    unfold fByteAt
    rw [if_pos ⟨nI_pos' hj, h12⟩, mIx_nI hj]
  rw [hf] at C
  have hb8 := hR0.2.2.2.1.2 j hj2
  refine xr_aload_n C d_Mo_byteAt_23 24 rfl rfl ?_
  refine xr_get C K_Mo 22 d_Mo_byteAt_24 27 rfl q_962 (Or.inl rfl) rfl (mX_o hA) rfl ?_
  refine xr_iload_n C d_Mo_byteAt_27 28 rfl rfl ?_
  refine xr_bipush (v := 8) C d_Mo_byteAt_28 30 rfl (by decide) ?_
  refine xr_idiv C d_Mo_byteAt_30 31 rfl (by decide) ?_
  refine xr_toi (show _ = nI (j / 8) from pk_div (a := j) (d := 8) (by omega) (by omega) (by omega)) ?_
  refine xr_lald (j := (j / 8)) C d_Mo_byteAt_31 32 rfl (mX_22 hA) rfl (by omega) (by omega) ?_
  refine xr_bipush (v := 8) C d_Mo_byteAt_32 34 rfl (by decide) ?_
  refine xr_iload_n C d_Mo_byteAt_34 35 rfl rfl ?_
  refine xr_bipush (v := 8) C d_Mo_byteAt_35 37 rfl (by decide) ?_
  refine xr_irem C d_Mo_byteAt_37 38 rfl (by decide) ?_
  refine xr_toi (show _ = nI (j % 8) from pk_rem (a := j) (d := 8) (by omega) (by omega) (by omega)) ?_
  refine xr_imul C d_Mo_byteAt_38 39 rfl ?_
  refine xr_toi (show _ = nI (8 * (j % 8)) from pk_mul 8 (j % 8)) ?_
  refine xr_lshr (v := (z0.2.2 22 (j / 8)) >>> sa (8 * (j % 8))) C d_Mo_byteAt_39 40 rfl rfl ?_
  refine xr_ldc2 (v := 255) C d_Mo_byteAt_40 43 rfl q_1027 ?_
  refine xr_land C d_Mo_byteAt_43 44 rfl ?_
  refine xr_l2i C d_Mo_byteAt_44 45 rfl rfl ?_
  refine xr_toi (show _ = u8 (S.2.2.1.getD j 0) from (ext8 (by omega)).trans (by rw [hb8, u8_ub])) ?_
  exact xr_iret C d_Mo_byteAt_45 (by omega) (by omega) ⟨_, rfl, z0, rfl, ht0, fun _ => rfl, hR0⟩
set_option maxRecDepth 100000 in
set_option maxHeartbeats 4000000 in
theorem c_Mo_rowSize {l : Launch} {D : va_G} {H0 : Heap} {X0 : xH} {A : Nat → Nat} {s : MS} (hA : mInj A) {m : Nat} {ss : List Ss} {es : List Es} (hm : m < 2) (hS : rS s m ss) (hE : rE s m es) (hok : okS ss) (hom : okM es) : xMet l D H0 y_Mo_rowSize b_Mo_rowSize 4 (some .int) [] 0 0 0 [.ref (A 0), .int (nI m)] (mX D X0 A s) (fun o X' => o = .inl (some (.int (nI (8 + rbS ss + rbE es)))) ∧ X' = mX D X0 A s) := by
  have htop := rb_top hok hom
  have h16 := hok.1
  have h128 := hom.1
  refine ⟨[some (.ref (A 0)), some (.int (nI m)), none, none], rfl, Nat.le_of_ble_eq_true rfl, fun E hD hH hl _ C => ?_⟩
  subst hD
  subst hH
  subst hl
  have loop2 : ∀ (k i : Nat), i + k = es.length → xG E (mX E.D X0 A s) 0 0 47 [some (.ref (A 0)), some (.int (nI m)), some (.int (nI (8 + rbS ss + rbE (es.take i)))), some (.int (nI (128 * m + i)))] [] := by
    intro k
    induction k with
    | zero =>
      intro i hi
      refine xr_iload_n C d_Mo_rowSize_47 48 rfl rfl ?_
      refine xr_sipush (v := 128) C d_Mo_rowSize_48 51 rfl (by decide) ?_
      refine xr_iload_n C d_Mo_rowSize_51 52 rfl rfl ?_
      refine xr_imul C d_Mo_rowSize_52 53 rfl ?_
      refine xr_toi (show _ = nI (128 * m) from pk_mul 128 m) ?_
      refine xr_aload_n C d_Mo_rowSize_53 54 rfl rfl ?_
      refine xr_get C K_Mo 8 d_Mo_rowSize_54 57 rfl q_948 (Or.inl rfl) rfl (mX_o hA) rfl ?_
      refine xr_iload_n C d_Mo_rowSize_57 58 rfl rfl ?_
      refine xr_iald (j := m) C d_Mo_rowSize_58 59 rfl (mX_8 hA) rfl (by omega) (by omega) ?_
      refine xr_toi (show _ = nI es.length from hE.1) ?_
      refine xr_iadd C d_Mo_rowSize_59 60 rfl ?_
      refine xr_toi (show _ = nI ((128 * m) + es.length) from nI_add (128 * m) es.length) ?_
      refine xr_icmp_ge C d_Mo_rowSize_60 63 87 rfl (by decide) (fun _ => ?_) (fun h => absurd (nI_le (show 128 * m + es.length ≤ 128 * m + i by omega) (by omega)) h)
      refine xr_iload_n C d_Mo_rowSize_87 88 rfl rfl ?_
      exact xr_iret C d_Mo_rowSize_88 (by omega) (by omega) ⟨by rw [List.take_of_length_le (show es.length ≤ i by omega)], rfl⟩
    | succ k ih =>
      intro i hi
      have i1 : i < es.length := by omega
      have hsl := hE.2 i i1
      refine xr_iload_n C d_Mo_rowSize_47 48 rfl rfl ?_
      refine xr_sipush (v := 128) C d_Mo_rowSize_48 51 rfl (by decide) ?_
      refine xr_iload_n C d_Mo_rowSize_51 52 rfl rfl ?_
      refine xr_imul C d_Mo_rowSize_52 53 rfl ?_
      refine xr_toi (show _ = nI (128 * m) from pk_mul 128 m) ?_
      refine xr_aload_n C d_Mo_rowSize_53 54 rfl rfl ?_
      refine xr_get C K_Mo 8 d_Mo_rowSize_54 57 rfl q_948 (Or.inl rfl) rfl (mX_o hA) rfl ?_
      refine xr_iload_n C d_Mo_rowSize_57 58 rfl rfl ?_
      refine xr_iald (j := m) C d_Mo_rowSize_58 59 rfl (mX_8 hA) rfl (by omega) (by omega) ?_
      refine xr_toi (show _ = nI es.length from hE.1) ?_
      refine xr_iadd C d_Mo_rowSize_59 60 rfl ?_
      refine xr_toi (show _ = nI ((128 * m) + es.length) from nI_add (128 * m) es.length) ?_
      refine xr_icmp_ge C d_Mo_rowSize_60 63 87 rfl (by decide) (fun h => absurd h (nI_ge (show 128 * m + i < 128 * m + es.length by omega) (by omega))) (fun _ => ?_)
      refine xr_iload_n C d_Mo_rowSize_63 64 rfl rfl ?_
      refine xr_iconst (v := 3) C d_Mo_rowSize_64 65 rfl (by decide) ?_
      refine xr_aload_n C d_Mo_rowSize_65 66 rfl rfl ?_
      refine xr_get C K_Mo 9 d_Mo_rowSize_66 69 rfl q_949 (Or.inl rfl) rfl (mX_o hA) rfl ?_
      refine xr_iload_n C d_Mo_rowSize_69 70 rfl rfl ?_
      refine xr_iald (j := (128 * m + i)) C d_Mo_rowSize_70 71 rfl (mX_9 hA) rfl (by omega) (by omega) ?_
      refine xr_toi (show _ = nI ((eD es i).1.length) from hsl.1.1) ?_
      refine xr_iadd C d_Mo_rowSize_71 72 rfl ?_
      refine xr_toi (show _ = nI (3 + ((eD es i).1.length)) from nI_add 3 ((eD es i).1.length)) ?_
      refine xr_aload_n C d_Mo_rowSize_72 73 rfl rfl ?_
      refine xr_get C K_Mo 11 d_Mo_rowSize_73 76 rfl q_951 (Or.inl rfl) rfl (mX_o hA) rfl ?_
      refine xr_iload_n C d_Mo_rowSize_76 77 rfl rfl ?_
      refine xr_iald (j := (128 * m + i)) C d_Mo_rowSize_77 78 rfl (mX_11 hA) rfl (by omega) (by omega) ?_
      refine xr_toi (show _ = nI ((eD es i).2.length) from hsl.2.1) ?_
      refine xr_iadd C d_Mo_rowSize_78 79 rfl ?_
      refine xr_toi (show _ = nI ((3 + ((eD es i).1.length)) + ((eD es i).2.length)) from nI_add (3 + ((eD es i).1.length)) ((eD es i).2.length)) ?_
      refine xr_iadd C d_Mo_rowSize_79 80 rfl ?_
      refine xr_toi (show _ = nI (8 + rbS ss + rbE (es.take (i + 1))) from (nI_add _ _).trans (by rw [rbE_take i1]; congr 1; omega)) ?_
      refine xr_istore_n C d_Mo_rowSize_80 81 rfl rfl rfl ?_
      refine xr_iinc (v := 1) C d_Mo_rowSize_81 84 rfl rfl rfl rfl (by decide) ?_
      refine xr_goto C d_Mo_rowSize_84 47 (by decide) ?_
      refine xG.eqL (show _ = [some (Value.ref (A 0)), some (Value.int (nI m)), some (Value.int (nI (8 + rbS ss + rbE (es.take (i + 1))))), some (Value.int (nI (128 * m + (i + 1))))] by rw [show 128 * m + (i + 1) = 128 * m + i + 1 by omega, ← nI_one (128 * m + i)]; rfl) ?_
      exact ih (i + 1) (by omega)
  have loop1 : ∀ (k i : Nat), i + k = ss.length → xG E (mX E.D X0 A s) 0 0 8 [some (.ref (A 0)), some (.int (nI m)), some (.int (nI (8 + rbS (ss.take i)))), some (.int (nI (16 * m + i)))] [] := by
    intro k
    induction k with
    | zero =>
      intro i hi
      refine xr_iload_n C d_Mo_rowSize_8 9 rfl rfl ?_
      refine xr_bipush (v := 16) C d_Mo_rowSize_9 11 rfl (by decide) ?_
      refine xr_iload_n C d_Mo_rowSize_11 12 rfl rfl ?_
      refine xr_imul C d_Mo_rowSize_12 13 rfl ?_
      refine xr_toi (show _ = nI (16 * m) from pk_mul 16 m) ?_
      refine xr_aload_n C d_Mo_rowSize_13 14 rfl rfl ?_
      refine xr_get C K_Mo 1 d_Mo_rowSize_14 17 rfl q_941 (Or.inl rfl) rfl (mX_o hA) rfl ?_
      refine xr_iload_n C d_Mo_rowSize_17 18 rfl rfl ?_
      refine xr_iald (j := m) C d_Mo_rowSize_18 19 rfl (mX_1 hA) rfl (by omega) (by omega) ?_
      refine xr_toi (show _ = nI ss.length from hS.1) ?_
      refine xr_iadd C d_Mo_rowSize_19 20 rfl ?_
      refine xr_toi (show _ = nI ((16 * m) + ss.length) from nI_add (16 * m) ss.length) ?_
      refine xr_icmp_ge C d_Mo_rowSize_20 23 41 rfl (by decide) (fun _ => ?_) (fun h => absurd (nI_le (show 16 * m + ss.length ≤ 16 * m + i by omega) (by omega)) h)
      refine xr_sipush (v := 128) C d_Mo_rowSize_41 44 rfl (by decide) ?_
      refine xr_iload_n C d_Mo_rowSize_44 45 rfl rfl ?_
      refine xr_imul C d_Mo_rowSize_45 46 rfl ?_
      refine xr_toi (show _ = nI (128 * m) from pk_mul 128 m) ?_
      refine xr_istore_n C d_Mo_rowSize_46 47 rfl rfl rfl ?_
      refine xG.eqL (show _ = [some (Value.ref (A 0)), some (Value.int (nI m)), some (Value.int (nI (8 + rbS ss + rbE (es.take 0)))), some (Value.int (nI (128 * m + 0)))] by rw [List.take_of_length_le (show ss.length ≤ i by omega)]; rfl) ?_
      exact loop2 es.length 0 (by omega)
    | succ k ih =>
      intro i hi
      have i1 : i < ss.length := by omega
      have hsl := hS.2 i i1
      refine xr_iload_n C d_Mo_rowSize_8 9 rfl rfl ?_
      refine xr_bipush (v := 16) C d_Mo_rowSize_9 11 rfl (by decide) ?_
      refine xr_iload_n C d_Mo_rowSize_11 12 rfl rfl ?_
      refine xr_imul C d_Mo_rowSize_12 13 rfl ?_
      refine xr_toi (show _ = nI (16 * m) from pk_mul 16 m) ?_
      refine xr_aload_n C d_Mo_rowSize_13 14 rfl rfl ?_
      refine xr_get C K_Mo 1 d_Mo_rowSize_14 17 rfl q_941 (Or.inl rfl) rfl (mX_o hA) rfl ?_
      refine xr_iload_n C d_Mo_rowSize_17 18 rfl rfl ?_
      refine xr_iald (j := m) C d_Mo_rowSize_18 19 rfl (mX_1 hA) rfl (by omega) (by omega) ?_
      refine xr_toi (show _ = nI ss.length from hS.1) ?_
      refine xr_iadd C d_Mo_rowSize_19 20 rfl ?_
      refine xr_toi (show _ = nI ((16 * m) + ss.length) from nI_add (16 * m) ss.length) ?_
      refine xr_icmp_ge C d_Mo_rowSize_20 23 41 rfl (by decide) (fun h => absurd h (nI_ge (show 16 * m + i < 16 * m + ss.length by omega) (by omega))) (fun _ => ?_)
      refine xr_iload_n C d_Mo_rowSize_23 24 rfl rfl ?_
      refine xr_bipush (v := 18) C d_Mo_rowSize_24 26 rfl (by decide) ?_
      refine xr_aload_n C d_Mo_rowSize_26 27 rfl rfl ?_
      refine xr_get C K_Mo 6 d_Mo_rowSize_27 30 rfl q_946 (Or.inl rfl) rfl (mX_o hA) rfl ?_
      refine xr_iload_n C d_Mo_rowSize_30 31 rfl rfl ?_
      refine xr_iald (j := (16 * m + i)) C d_Mo_rowSize_31 32 rfl (mX_6 hA) rfl (by omega) (by omega) ?_
      refine xr_toi (show _ = nI ((sD ss i).2.2.2.2.length) from hsl.2.2.2.2.1) ?_
      refine xr_iadd C d_Mo_rowSize_32 33 rfl ?_
      refine xr_toi (show _ = nI (18 + ((sD ss i).2.2.2.2.length)) from nI_add 18 ((sD ss i).2.2.2.2.length)) ?_
      refine xr_iadd C d_Mo_rowSize_33 34 rfl ?_
      refine xr_toi (show _ = nI (8 + rbS (ss.take (i + 1))) from (nI_add _ _).trans (by rw [rbS_take i1]; congr 1; omega)) ?_
      refine xr_istore_n C d_Mo_rowSize_34 35 rfl rfl rfl ?_
      refine xr_iinc (v := 1) C d_Mo_rowSize_35 38 rfl rfl rfl rfl (by decide) ?_
      refine xr_goto C d_Mo_rowSize_38 8 (by decide) ?_
      refine xG.eqL (show _ = [some (Value.ref (A 0)), some (Value.int (nI m)), some (Value.int (nI (8 + rbS (ss.take (i + 1))))), some (Value.int (nI (16 * m + (i + 1))))] by rw [show 16 * m + (i + 1) = 16 * m + i + 1 by omega, ← nI_one (16 * m + i)]; rfl) ?_
      exact ih (i + 1) (by omega)
  refine xr_bipush (v := 8) C d_Mo_rowSize_0 2 rfl (by decide) ?_
  refine xr_istore_n C d_Mo_rowSize_2 3 rfl rfl rfl ?_
  refine xr_bipush (v := 16) C d_Mo_rowSize_3 5 rfl (by decide) ?_
  refine xr_iload_n C d_Mo_rowSize_5 6 rfl rfl ?_
  refine xr_imul C d_Mo_rowSize_6 7 rfl ?_
  refine xr_toi (show _ = nI (16 * m) from pk_mul 16 m) ?_
  refine xr_istore_n C d_Mo_rowSize_7 8 rfl rfl rfl ?_
  refine xG.eqL (show _ = [some (Value.ref (A 0)), some (Value.int (nI m)), some (Value.int (nI (8 + rbS (ss.take 0)))), some (Value.int (nI (16 * m + 0)))] from rfl) ?_
  exact loop1 ss.length 0 (by omega)
set_option maxRecDepth 100000 in
set_option maxHeartbeats 4000000 in
theorem d_Mo_state {l : Launch} {D : va_G} {H0 : Heap} {X0 : xH} {A : Nat → Nat} {s : MS} (hA : mInj A) {S : St} (hR : mRel s S) (hW : wf S) (hV : inv2 S) {z w : Int32} : xMet l D H0 y_Mo_state b_Mo_state 3 (some .int) [] 2 0 0 [.ref (A 0), .int z, .int w] (mX D X0 A s) (fun o X' => ∃ v : Int32, o = .inl (some (.int v)) ∧ ∃ s', X' = mX D X0 A s' ∧ s'.1 0 = nI (fState S z w).1 ∧ ((fState S z w).1 = 0 → v = (fState S z w).2) ∧ mRel s' S) := by
  refine ⟨[some (.ref (A 0)), some (.int z), some (.int w)], rfl, Nat.le_of_ble_eq_true rfl, fun E hD hH hl _ C => ?_⟩
  subst hD
  subst hH
  subst hl
  refine xr_aload_n C d_Mo_state_0 1 rfl rfl ?_
  refine xr_iconst (v := 0) C d_Mo_state_1 2 rfl (by decide) ?_
  refine xr_put C K_Mo 0 d_Mo_state_2 5 rfl q_940 (Or.inl rfl) rfl rfl rfl rfl (mX_o hA) rfl rfl ?_
  obtain ⟨z0, hz0⟩ : ∃ zz9, zz9 = setS s 0 (nI 0) := ⟨_, rfl⟩
  refine xG.eqX (show _ = mX E.D X0 A z0 from (mX_f0 (v := (nI 0)) hA).trans (by rw [hz0])) ?_
  have hR0 : mRel z0 S := by rw [hz0]; exact mRel_f hR
  have ht0 : z0.1 0 = 0 := by rw [hz0]; rfl
  have t21 : fState S z w = (1, 0) → xG E (mX E.D X0 A z0) 0 0 21 [some (.ref (A 0)), some (.int z), some (.int w)] [] := by
    intro h
    rw [h] at C
    refine xr_aload_n C d_Mo_state_21 22 rfl rfl ?_
    refine xr_iconst (v := 1) C d_Mo_state_22 23 rfl (by decide) ?_
    refine xr_callV C (c_Mo_fail hA) k_Mo_fail d_Mo_state_23 26 rfl (mX_o hA) rfl (Or.inl q_1023) v_Mo_fail e_Mo_fail h_Mo_fail rfl ⟨Nat.le_of_ble_eq_true rfl, Nat.le_of_ble_eq_true rfl, Nat.le_of_ble_eq_true rfl⟩ (by omega) (by omega) (fun v9 X9 hP => ?_) (fun _ _ h => absurd h.1 (by simp))
    obtain ⟨h1, rfl⟩ := hP
    cases h1
    exact xr_iret C d_Mo_state_26 (by omega) (by omega) ⟨_, rfl, _, rfl, rfl, fun h => absurd h (show ¬ (1 : Nat) = 0 by decide), mRel_f hR0⟩
  refine xr_iload_n C d_Mo_state_5 6 rfl rfl ?_
  refine xr_callS C (c_Mo_isMachine) k_Mo_isMachine d_Mo_state_6 9 rfl (Or.inl q_1032) s_Mo_isMachine in_Mo_isMachine h_Mo_isMachine rfl ⟨Nat.le_of_ble_eq_true rfl, Nat.le_of_ble_eq_true rfl, Nat.le_of_ble_eq_true rfl⟩ (by omega) (by omega) (fun v9 X9 hP => ?_) (fun _ _ h => absurd h.1 (by simp))
  obtain ⟨h1, rfl⟩ := hP
  cases h1
  rcases mach_ix z with hz | ⟨i, hi, rfl⟩
  · refine xr_toi (if_neg (notM hz)) ?_
    refine xr_if_eq C d_Mo_state_9 12 21 rfl (by decide) (fun _ => t21 (if_neg (notM hz))) (fun h => absurd rfl h)
  · obtain ⟨hs1, hs2, hs3⟩ := hR0.2.2.1 i hi
    obtain ⟨w1, w2, w3, w4⟩ := hW.2 i hi
    have w1l := w1.1
    have w2l := w2.1
    have hfm : fState S (nI i) w = if w = 0 then (0, nI (S.2.1 i).1.length) else if w = 1 then (0, nI (S.2.1 i).2.1.length) else if w = 2 then (0, nI (uns (S.2.1 i).2.1)) else if w = 3 then (0, nI (8 + rbS (S.2.1 i).1 + rbE (S.2.1 i).2.1)) else if w = 4 then (0, (S.2.1 i).2.2) else (1, 0) := by
      unfold fState
      rw [if_pos (isM_of hi), mIx_nI (by omega)]
    refine xr_toi (if_pos (isM_of hi)) ?_
    refine xr_if_eq C d_Mo_state_9 12 21 rfl (by decide) (fun h => absurd h (by decide)) (fun _ => ?_)
    refine xr_iload_n C d_Mo_state_12 13 rfl rfl ?_
    refine xr_iconst (v := 0) C d_Mo_state_13 14 rfl (by decide) ?_
    refine xr_iconst (v := 4) C d_Mo_state_14 15 rfl (by decide) ?_
    refine xr_callS C (c_Mo_within) k_Mo_within d_Mo_state_15 18 rfl (Or.inl q_1020) s_Mo_within in_Mo_within h_Mo_within rfl ⟨Nat.le_of_ble_eq_true rfl, Nat.le_of_ble_eq_true rfl, Nat.le_of_ble_eq_true rfl⟩ (by omega) (by omega) (fun v9 X9 hP => ?_) (fun _ _ h => absurd h.1 (by simp))
    obtain ⟨h1, rfl⟩ := hP
    cases h1
    rcases pk_ix w (n := 5) (by omega) with hw0 | hw0 | ⟨j, hj, rfl⟩
    · have hw : w.toInt < 0 ∨ 4 < w.toInt := Or.inl (by have := Int32.lt_iff_toInt_lt.mp hw0; exact this)
      have hne : ∀ k : Nat, k < 5 → w ≠ nI k := by
        intro k hk e
        rw [e, nI_int (by omega)] at hw
        omega
      have hnw : ¬ ((0 : Int32) ≤ w ∧ w ≤ 4) := fun q => by
        have q1 := Int32.le_iff_toInt_le.mp q.1
        have q2 := Int32.le_iff_toInt_le.mp q.2
        have e0 : (0 : Int32).toInt = 0 := rfl
        have e4 : (4 : Int32).toInt = 4 := rfl
        omega
      refine xr_toi (if_neg hnw) ?_
      refine xr_if_ne C d_Mo_state_18 21 27 rfl (by decide) (fun h => absurd rfl h) (fun _ => t21 (by rw [hfm, if_neg (show ¬ w = 0 from hne 0 (by omega)), if_neg (show ¬ w = 1 from hne 1 (by omega)), if_neg (show ¬ w = 2 from hne 2 (by omega)), if_neg (show ¬ w = 3 from hne 3 (by omega)), if_neg (show ¬ w = 4 from hne 4 (by omega))]))
    · have hw : w.toInt < 0 ∨ 4 < w.toInt := Or.inr (by have := Int32.le_iff_toInt_le.mp hw0; exact Int.lt_of_lt_of_le (by decide) this)
      have hne : ∀ k : Nat, k < 5 → w ≠ nI k := by
        intro k hk e
        rw [e, nI_int (by omega)] at hw
        omega
      have hnw : ¬ ((0 : Int32) ≤ w ∧ w ≤ 4) := fun q => by
        have q1 := Int32.le_iff_toInt_le.mp q.1
        have q2 := Int32.le_iff_toInt_le.mp q.2
        have e0 : (0 : Int32).toInt = 0 := rfl
        have e4 : (4 : Int32).toInt = 4 := rfl
        omega
      refine xr_toi (if_neg hnw) ?_
      refine xr_if_ne C d_Mo_state_18 21 27 rfl (by decide) (fun h => absurd rfl h) (fun _ => t21 (by rw [hfm, if_neg (show ¬ w = 0 from hne 0 (by omega)), if_neg (show ¬ w = 1 from hne 1 (by omega)), if_neg (show ¬ w = 2 from hne 2 (by omega)), if_neg (show ¬ w = 3 from hne 3 (by omega)), if_neg (show ¬ w = 4 from hne 4 (by omega))]))
    · have hj5 : j = 0 ∨ j = 1 ∨ j = 2 ∨ j = 3 ∨ j = 4 := by omega
      rcases hj5 with e | e | e | e | e
      · subst e
        rw [hfm, if_pos (show nI 0 = 0 from rfl)] at C
        refine xr_toi (if_pos (show (0 : Int32) ≤ nI 0 ∧ nI 0 ≤ 4 by decide)) ?_
        refine xr_if_ne C d_Mo_state_18 21 27 rfl (by decide) (fun _ => ?_) (fun h => absurd h (by decide))
        refine xr_iload_n C d_Mo_state_27 28 rfl rfl ?_
        refine xr_iconst (v := 3) C d_Mo_state_28 29 rfl (by decide) ?_
        refine xr_icmp_ge C d_Mo_state_29 32 65 rfl (by decide) (fun h => absurd h (by decide)) (fun _ => ?_)
        refine xr_iload_n C d_Mo_state_32 33 rfl rfl ?_
        refine xr_if_ne C d_Mo_state_33 36 45 rfl (by decide) (fun h => absurd rfl h) (fun _ => ?_)
        refine xr_aload_n C d_Mo_state_36 37 rfl rfl ?_
        refine xr_get C K_Mo 1 d_Mo_state_37 40 rfl q_941 (Or.inl rfl) rfl (mX_o hA) rfl ?_
        refine xr_iload_n C d_Mo_state_40 41 rfl rfl ?_
        refine xr_iald (j := i) C d_Mo_state_41 42 rfl (mX_1 hA) rfl (by omega) (by omega) ?_
        refine xr_toi (show _ = nI (S.2.1 i).1.length from hs1.1) ?_
        refine xr_goto C d_Mo_state_42 64 (by decide) ?_
        exact xr_iret C d_Mo_state_64 (by omega) (by omega) ⟨_, rfl, z0, rfl, ht0, fun _ => rfl, hR0⟩
      · subst e
        rw [hfm, if_neg (show ¬ nI 1 = 0 by decide), if_pos (show nI 1 = 1 from rfl)] at C
        refine xr_toi (if_pos (show (0 : Int32) ≤ nI 1 ∧ nI 1 ≤ 4 by decide)) ?_
        refine xr_if_ne C d_Mo_state_18 21 27 rfl (by decide) (fun _ => ?_) (fun h => absurd h (by decide))
        refine xr_iload_n C d_Mo_state_27 28 rfl rfl ?_
        refine xr_iconst (v := 3) C d_Mo_state_28 29 rfl (by decide) ?_
        refine xr_icmp_ge C d_Mo_state_29 32 65 rfl (by decide) (fun h => absurd h (by decide)) (fun _ => ?_)
        refine xr_iload_n C d_Mo_state_32 33 rfl rfl ?_
        refine xr_if_ne C d_Mo_state_33 36 45 rfl (by decide) (fun _ => ?_) (fun h => absurd h (by decide))
        refine xr_iload_n C d_Mo_state_45 46 rfl rfl ?_
        refine xr_iconst (v := 1) C d_Mo_state_46 47 rfl (by decide) ?_
        refine xr_icmp_ne C d_Mo_state_47 50 59 rfl (by decide) (fun h => absurd rfl h) (fun _ => ?_)
        refine xr_aload_n C d_Mo_state_50 51 rfl rfl ?_
        refine xr_get C K_Mo 8 d_Mo_state_51 54 rfl q_948 (Or.inl rfl) rfl (mX_o hA) rfl ?_
        refine xr_iload_n C d_Mo_state_54 55 rfl rfl ?_
        refine xr_iald (j := i) C d_Mo_state_55 56 rfl (mX_8 hA) rfl (by omega) (by omega) ?_
        refine xr_toi (show _ = nI (S.2.1 i).2.1.length from hs2.1) ?_
        refine xr_goto C d_Mo_state_56 64 (by decide) ?_
        exact xr_iret C d_Mo_state_64 (by omega) (by omega) ⟨_, rfl, z0, rfl, ht0, fun _ => rfl, hR0⟩
      · subst e
        rw [hfm, if_neg (show ¬ nI 2 = 0 by decide), if_neg (show ¬ nI 2 = 1 by decide), if_pos (show nI 2 = 2 from rfl)] at C
        refine xr_toi (if_pos (show (0 : Int32) ≤ nI 2 ∧ nI 2 ≤ 4 by decide)) ?_
        refine xr_if_ne C d_Mo_state_18 21 27 rfl (by decide) (fun _ => ?_) (fun h => absurd h (by decide))
        refine xr_iload_n C d_Mo_state_27 28 rfl rfl ?_
        refine xr_iconst (v := 3) C d_Mo_state_28 29 rfl (by decide) ?_
        refine xr_icmp_ge C d_Mo_state_29 32 65 rfl (by decide) (fun h => absurd h (by decide)) (fun _ => ?_)
        refine xr_iload_n C d_Mo_state_32 33 rfl rfl ?_
        refine xr_if_ne C d_Mo_state_33 36 45 rfl (by decide) (fun _ => ?_) (fun h => absurd h (by decide))
        refine xr_iload_n C d_Mo_state_45 46 rfl rfl ?_
        refine xr_iconst (v := 1) C d_Mo_state_46 47 rfl (by decide) ?_
        refine xr_icmp_ne C d_Mo_state_47 50 59 rfl (by decide) (fun _ => ?_) (fun h => absurd h (by decide))
        refine xr_aload_n C d_Mo_state_59 60 rfl rfl ?_
        refine xr_iload_n C d_Mo_state_60 61 rfl rfl ?_
        refine xr_callV C (c_Mo_units hA hi hs2 w2) k_Mo_units d_Mo_state_61 64 rfl (mX_o hA) rfl (Or.inl q_1100) v_Mo_units e_Mo_units h_Mo_units rfl ⟨Nat.le_of_ble_eq_true rfl, Nat.le_of_ble_eq_true rfl, Nat.le_of_ble_eq_true rfl⟩ (by omega) (by omega) (fun v9 X9 hP => ?_) (fun _ _ h => absurd h.1 (by simp))
        obtain ⟨h1, rfl⟩ := hP
        cases h1
        exact xr_iret C d_Mo_state_64 (by omega) (by omega) ⟨_, rfl, z0, rfl, ht0, fun _ => rfl, hR0⟩
      · subst e
        rw [hfm, if_neg (show ¬ nI 3 = 0 by decide), if_neg (show ¬ nI 3 = 1 by decide), if_neg (show ¬ nI 3 = 2 by decide), if_pos (show nI 3 = 3 from rfl)] at C
        refine xr_toi (if_pos (show (0 : Int32) ≤ nI 3 ∧ nI 3 ≤ 4 by decide)) ?_
        refine xr_if_ne C d_Mo_state_18 21 27 rfl (by decide) (fun _ => ?_) (fun h => absurd h (by decide))
        refine xr_iload_n C d_Mo_state_27 28 rfl rfl ?_
        refine xr_iconst (v := 3) C d_Mo_state_28 29 rfl (by decide) ?_
        refine xr_icmp_ge C d_Mo_state_29 32 65 rfl (by decide) (fun _ => ?_) (fun h => absurd h (by decide))
        refine xr_iload_n C d_Mo_state_65 66 rfl rfl ?_
        refine xr_iconst (v := 3) C d_Mo_state_66 67 rfl (by decide) ?_
        refine xr_icmp_ne C d_Mo_state_67 70 78 rfl (by decide) (fun h => absurd rfl h) (fun _ => ?_)
        refine xr_aload_n C d_Mo_state_70 71 rfl rfl ?_
        refine xr_iload_n C d_Mo_state_71 72 rfl rfl ?_
        refine xr_callV C (c_Mo_rowSize hA hi hs1 hs2 w1 w2) k_Mo_rowSize d_Mo_state_72 75 rfl (mX_o hA) rfl (Or.inl q_1167) v_Mo_rowSize e_Mo_rowSize h_Mo_rowSize rfl ⟨Nat.le_of_ble_eq_true rfl, Nat.le_of_ble_eq_true rfl, Nat.le_of_ble_eq_true rfl⟩ (by omega) (by omega) (fun v9 X9 hP => ?_) (fun _ _ h => absurd h.1 (by simp))
        obtain ⟨h1, rfl⟩ := hP
        cases h1
        refine xr_goto C d_Mo_state_75 84 (by decide) ?_
        exact xr_iret C d_Mo_state_84 (by omega) (by omega) ⟨_, rfl, z0, rfl, ht0, fun _ => rfl, hR0⟩
      · subst e
        rw [hfm, if_neg (show ¬ nI 4 = 0 by decide), if_neg (show ¬ nI 4 = 1 by decide), if_neg (show ¬ nI 4 = 2 by decide), if_neg (show ¬ nI 4 = 3 by decide), if_pos (show nI 4 = 4 from rfl)] at C
        refine xr_toi (if_pos (show (0 : Int32) ≤ nI 4 ∧ nI 4 ≤ 4 by decide)) ?_
        refine xr_if_ne C d_Mo_state_18 21 27 rfl (by decide) (fun _ => ?_) (fun h => absurd h (by decide))
        refine xr_iload_n C d_Mo_state_27 28 rfl rfl ?_
        refine xr_iconst (v := 3) C d_Mo_state_28 29 rfl (by decide) ?_
        refine xr_icmp_ge C d_Mo_state_29 32 65 rfl (by decide) (fun _ => ?_) (fun h => absurd h (by decide))
        refine xr_iload_n C d_Mo_state_65 66 rfl rfl ?_
        refine xr_iconst (v := 3) C d_Mo_state_66 67 rfl (by decide) ?_
        refine xr_icmp_ne C d_Mo_state_67 70 78 rfl (by decide) (fun _ => ?_) (fun h => absurd h (by decide))
        refine xr_aload_n C d_Mo_state_78 79 rfl rfl ?_
        refine xr_get C K_Mo 13 d_Mo_state_79 82 rfl q_953 (Or.inl rfl) rfl (mX_o hA) rfl ?_
        refine xr_iload_n C d_Mo_state_82 83 rfl rfl ?_
        refine xr_iald (j := i) C d_Mo_state_83 84 rfl (mX_13 hA) rfl (by omega) (by omega) ?_
        refine xr_toi (show _ = (S.2.1 i).2.2 from hs3) ?_
        exact xr_iret C d_Mo_state_84 (by omega) (by omega) ⟨_, rfl, z0, rfl, ht0, fun _ => rfl, hR0⟩
set_option maxRecDepth 100000 in
set_option maxHeartbeats 4000000 in
theorem d_Mo_session {l : Launch} {D : va_G} {H0 : Heap} {X0 : xH} {A : Nat → Nat} {s : MS} (hA : mInj A) {S : St} (hR : mRel s S) (hW : wf S) (hV : inv2 S) {z k w : Int32} : xMet l D H0 y_Mo_session b_Mo_session 5 (some .int) [] 1 0 0 [.ref (A 0), .int z, .int k, .int w] (mX D X0 A s) (fun o X' => ∃ v : Int32, o = .inl (some (.int v)) ∧ ∃ s', X' = mX D X0 A s' ∧ s'.1 0 = nI (fSession S z k w).1 ∧ ((fSession S z k w).1 = 0 → v = (fSession S z k w).2) ∧ mRel s' S) := by
  refine ⟨[some (.ref (A 0)), some (.int z), some (.int k), some (.int w), none], rfl, Nat.le_of_ble_eq_true rfl, fun E hD hH hl _ C => ?_⟩
  subst hD
  subst hH
  subst hl
  refine xr_aload_n C d_Mo_session_0 1 rfl rfl ?_
  refine xr_iconst (v := 0) C d_Mo_session_1 2 rfl (by decide) ?_
  refine xr_put C K_Mo 0 d_Mo_session_2 5 rfl q_940 (Or.inl rfl) rfl rfl rfl rfl (mX_o hA) rfl rfl ?_
  obtain ⟨z0, hz0⟩ : ∃ zz9, zz9 = setS s 0 (nI 0) := ⟨_, rfl⟩
  refine xG.eqX (show _ = mX E.D X0 A z0 from (mX_f0 (v := (nI 0)) hA).trans (by rw [hz0])) ?_
  have hR0 : mRel z0 S := by rw [hz0]; exact mRel_f hR
  have ht0 : z0.1 0 = 0 := by rw [hz0]; rfl
  have t37 : fSession S z k w = (1, 0) → xG E (mX E.D X0 A z0) 0 0 37 [some (.ref (A 0)), some (.int z), some (.int k), some (.int w), none] [] := by
    intro h
    rw [h] at C
    refine xr_aload_n C d_Mo_session_37 38 rfl rfl ?_
    refine xr_iconst (v := 1) C d_Mo_session_38 39 rfl (by decide) ?_
    refine xr_callV C (c_Mo_fail hA) k_Mo_fail d_Mo_session_39 42 rfl (mX_o hA) rfl (Or.inl q_1023) v_Mo_fail e_Mo_fail h_Mo_fail rfl ⟨Nat.le_of_ble_eq_true rfl, Nat.le_of_ble_eq_true rfl, Nat.le_of_ble_eq_true rfl⟩ (by omega) (by omega) (fun v9 X9 hP => ?_) (fun _ _ h => absurd h.1 (by simp))
    obtain ⟨h1, rfl⟩ := hP
    cases h1
    exact xr_iret C d_Mo_session_42 (by omega) (by omega) ⟨_, rfl, _, rfl, rfl, fun h => absurd h (show ¬ (1 : Nat) = 0 by decide), mRel_f hR0⟩
  refine xr_iload_n C d_Mo_session_5 6 rfl rfl ?_
  refine xr_callS C (c_Mo_isMachine) k_Mo_isMachine d_Mo_session_6 9 rfl (Or.inl q_1032) s_Mo_isMachine in_Mo_isMachine h_Mo_isMachine rfl ⟨Nat.le_of_ble_eq_true rfl, Nat.le_of_ble_eq_true rfl, Nat.le_of_ble_eq_true rfl⟩ (by omega) (by omega) (fun v9 X9 hP => ?_) (fun _ _ h => absurd h.1 (by simp))
  obtain ⟨h1, rfl⟩ := hP
  cases h1
  rcases mach_ix z with hz | ⟨i, hi, rfl⟩
  · refine xr_toi (if_neg (notM hz)) ?_
    refine xr_if_eq C d_Mo_session_9 12 37 rfl (by decide) (fun _ => t37 (if_neg (notM hz))) (fun h => absurd rfl h)
  · obtain ⟨hs1, hs2, hs3⟩ := hR0.2.2.1 i hi
    obtain ⟨w1, w2, w3, w4⟩ := hW.2 i hi
    have w1l := w1.1
    have w2l := w2.1
    have hfm : fSession S (nI i) k w = if 0 ≤ k ∧ k < nI (S.2.1 i).1.length then
      if w = 0 then (0, (sD (S.2.1 i).1 (mIx k)).1) else if w = 1 then (0, (sD (S.2.1 i).1 (mIx k)).2.1) else if w = 2 then (0, (sD (S.2.1 i).1 (mIx k)).2.2.1) else if w = 3 then (0, (sD (S.2.1 i).1 (mIx k)).2.2.2.1) else if w = 4 then (0, nI (sD (S.2.1 i).1 (mIx k)).2.2.2.2.length) else (1, 0)
    else (1, 0) := by
      unfold fSession
      rw [if_pos (isM_of hi), mIx_nI (by omega)]
    refine xr_toi (if_pos (isM_of hi)) ?_
    refine xr_if_eq C d_Mo_session_9 12 37 rfl (by decide) (fun h => absurd h (by decide)) (fun _ => ?_)
    refine xr_iload_n C d_Mo_session_12 13 rfl rfl ?_
    refine xr_iconst (v := 0) C d_Mo_session_13 14 rfl (by decide) ?_
    refine xr_aload_n C d_Mo_session_14 15 rfl rfl ?_
    refine xr_get C K_Mo 1 d_Mo_session_15 18 rfl q_941 (Or.inl rfl) rfl (mX_o hA) rfl ?_
    refine xr_iload_n C d_Mo_session_18 19 rfl rfl ?_
    refine xr_iald (j := i) C d_Mo_session_19 20 rfl (mX_1 hA) rfl (by omega) (by omega) ?_
    refine xr_toi (show _ = nI ((S.2.1 i).1.length) from hs1.1) ?_
    refine xr_iconst (v := 1) C d_Mo_session_20 21 rfl (by decide) ?_
    refine xr_isub C d_Mo_session_21 22 rfl ?_
    refine xr_callS C (c_Mo_within) k_Mo_within d_Mo_session_22 25 rfl (Or.inl q_1020) s_Mo_within in_Mo_within h_Mo_within rfl ⟨Nat.le_of_ble_eq_true rfl, Nat.le_of_ble_eq_true rfl, Nat.le_of_ble_eq_true rfl⟩ (by omega) (by omega) (fun v9 X9 hP => ?_) (fun _ _ h => absurd h.1 (by simp))
    obtain ⟨h1, rfl⟩ := hP
    cases h1
    by_cases hk : (0 : Int32) ≤ k ∧ k < nI (S.2.1 i).1.length
    rotate_left
    · refine xr_toi (if_neg (fun q => hk ⟨q.1, (km1 (by omega)).mp q.2⟩)) ?_
      refine xr_if_eq C d_Mo_session_25 28 37 rfl (by decide) (fun _ => t37 (by rw [hfm, if_neg hk])) (fun h => absurd rfl h)
    refine xr_toi (if_pos ⟨hk.1, (km1 (by omega)).mpr hk.2⟩) ?_
    rw [if_pos hk] at hfm
    obtain ⟨q, hq, rfl⟩ := nI_of (Int32.not_lt.mpr hk.1)
    have hq2 : q < (S.2.1 i).1.length := (nI_ltI hq (by omega)).mp hk.2
    rw [mIx_nI hq] at hfm
    have hsl := hs1.2 q hq2
    refine xr_if_eq C d_Mo_session_25 28 37 rfl (by decide) (fun h => absurd h (by decide)) (fun _ => ?_)
    refine xr_iload_n C d_Mo_session_28 29 rfl rfl ?_
    refine xr_iconst (v := 0) C d_Mo_session_29 30 rfl (by decide) ?_
    refine xr_iconst (v := 4) C d_Mo_session_30 31 rfl (by decide) ?_
    refine xr_callS C (c_Mo_within) k_Mo_within d_Mo_session_31 34 rfl (Or.inl q_1020) s_Mo_within in_Mo_within h_Mo_within rfl ⟨Nat.le_of_ble_eq_true rfl, Nat.le_of_ble_eq_true rfl, Nat.le_of_ble_eq_true rfl⟩ (by omega) (by omega) (fun v9 X9 hP => ?_) (fun _ _ h => absurd h.1 (by simp))
    obtain ⟨h1, rfl⟩ := hP
    cases h1
    rcases pk_ix w (n := 5) (by omega) with hw0 | hw0 | ⟨j, hj, rfl⟩
    · have hw : w.toInt < 0 ∨ 4 < w.toInt := Or.inl (by have := Int32.lt_iff_toInt_lt.mp hw0; exact this)
      have hne : ∀ k : Nat, k < 5 → w ≠ nI k := by
        intro k hk e
        rw [e, nI_int (by omega)] at hw
        omega
      have hnw : ¬ ((0 : Int32) ≤ w ∧ w ≤ 4) := fun q => by
        have q1 := Int32.le_iff_toInt_le.mp q.1
        have q2 := Int32.le_iff_toInt_le.mp q.2
        have e0 : (0 : Int32).toInt = 0 := rfl
        have e4 : (4 : Int32).toInt = 4 := rfl
        omega
      refine xr_toi (if_neg hnw) ?_
      refine xr_if_ne C d_Mo_session_34 37 43 rfl (by decide) (fun h => absurd rfl h) (fun _ => t37 (by rw [hfm, if_neg (show ¬ w = 0 from hne 0 (by omega)), if_neg (show ¬ w = 1 from hne 1 (by omega)), if_neg (show ¬ w = 2 from hne 2 (by omega)), if_neg (show ¬ w = 3 from hne 3 (by omega)), if_neg (show ¬ w = 4 from hne 4 (by omega))]))
    · have hw : w.toInt < 0 ∨ 4 < w.toInt := Or.inr (by have := Int32.le_iff_toInt_le.mp hw0; exact Int.lt_of_lt_of_le (by decide) this)
      have hne : ∀ k : Nat, k < 5 → w ≠ nI k := by
        intro k hk e
        rw [e, nI_int (by omega)] at hw
        omega
      have hnw : ¬ ((0 : Int32) ≤ w ∧ w ≤ 4) := fun q => by
        have q1 := Int32.le_iff_toInt_le.mp q.1
        have q2 := Int32.le_iff_toInt_le.mp q.2
        have e0 : (0 : Int32).toInt = 0 := rfl
        have e4 : (4 : Int32).toInt = 4 := rfl
        omega
      refine xr_toi (if_neg hnw) ?_
      refine xr_if_ne C d_Mo_session_34 37 43 rfl (by decide) (fun h => absurd rfl h) (fun _ => t37 (by rw [hfm, if_neg (show ¬ w = 0 from hne 0 (by omega)), if_neg (show ¬ w = 1 from hne 1 (by omega)), if_neg (show ¬ w = 2 from hne 2 (by omega)), if_neg (show ¬ w = 3 from hne 3 (by omega)), if_neg (show ¬ w = 4 from hne 4 (by omega))]))
    · have hj5 : j = 0 ∨ j = 1 ∨ j = 2 ∨ j = 3 ∨ j = 4 := by omega
      rcases hj5 with e | e | e | e | e
      · subst e
        rw [hfm, if_pos (show nI 0 = 0 from rfl)] at C
        refine xr_toi (if_pos (show (0 : Int32) ≤ nI 0 ∧ nI 0 ≤ 4 by decide)) ?_
        refine xr_if_ne C d_Mo_session_34 37 43 rfl (by decide) (fun _ => ?_) (fun h => absurd h (by decide))
        refine xr_bipush (v := 16) C d_Mo_session_43 45 rfl (by decide) ?_
        refine xr_iload_n C d_Mo_session_45 46 rfl rfl ?_
        refine xr_imul C d_Mo_session_46 47 rfl ?_
        refine xr_toi (show _ = nI (16 * i) from pk_mul 16 i) ?_
        refine xr_iload_n C d_Mo_session_47 48 rfl rfl ?_
        refine xr_iadd C d_Mo_session_48 49 rfl ?_
        refine xr_toi (show _ = nI ((16 * i) + q) from nI_add (16 * i) q) ?_
        refine xr_istore C d_Mo_session_49 51 rfl rfl rfl ?_
        refine xr_iload_n C d_Mo_session_51 52 rfl rfl ?_
        refine xr_iconst (v := 3) C d_Mo_session_52 53 rfl (by decide) ?_
        refine xr_icmp_ge C d_Mo_session_53 56 93 rfl (by decide) (fun h => absurd h (by decide)) (fun _ => ?_)
        refine xr_iload_n C d_Mo_session_56 57 rfl rfl ?_
        refine xr_if_ne C d_Mo_session_57 60 70 rfl (by decide) (fun h => absurd rfl h) (fun _ => ?_)
        refine xr_aload_n C d_Mo_session_60 61 rfl rfl ?_
        refine xr_get C K_Mo 2 d_Mo_session_61 64 rfl q_942 (Or.inl rfl) rfl (mX_o hA) rfl ?_
        refine xr_iload C d_Mo_session_64 66 rfl rfl ?_
        refine xr_iald (j := (16 * i + q)) C d_Mo_session_66 67 rfl (mX_2 hA) rfl (by omega) (by omega) ?_
        refine xr_toi (show _ = (sD (S.2.1 i).1 q).1 from hsl.1) ?_
        refine xr_goto C d_Mo_session_67 92 (by decide) ?_
        exact xr_iret C d_Mo_session_92 (by omega) (by omega) ⟨_, rfl, z0, rfl, ht0, fun _ => rfl, hR0⟩
      · subst e
        rw [hfm, if_neg (show ¬ nI 1 = 0 by decide), if_pos (show nI 1 = 1 from rfl)] at C
        refine xr_toi (if_pos (show (0 : Int32) ≤ nI 1 ∧ nI 1 ≤ 4 by decide)) ?_
        refine xr_if_ne C d_Mo_session_34 37 43 rfl (by decide) (fun _ => ?_) (fun h => absurd h (by decide))
        refine xr_bipush (v := 16) C d_Mo_session_43 45 rfl (by decide) ?_
        refine xr_iload_n C d_Mo_session_45 46 rfl rfl ?_
        refine xr_imul C d_Mo_session_46 47 rfl ?_
        refine xr_toi (show _ = nI (16 * i) from pk_mul 16 i) ?_
        refine xr_iload_n C d_Mo_session_47 48 rfl rfl ?_
        refine xr_iadd C d_Mo_session_48 49 rfl ?_
        refine xr_toi (show _ = nI ((16 * i) + q) from nI_add (16 * i) q) ?_
        refine xr_istore C d_Mo_session_49 51 rfl rfl rfl ?_
        refine xr_iload_n C d_Mo_session_51 52 rfl rfl ?_
        refine xr_iconst (v := 3) C d_Mo_session_52 53 rfl (by decide) ?_
        refine xr_icmp_ge C d_Mo_session_53 56 93 rfl (by decide) (fun h => absurd h (by decide)) (fun _ => ?_)
        refine xr_iload_n C d_Mo_session_56 57 rfl rfl ?_
        refine xr_if_ne C d_Mo_session_57 60 70 rfl (by decide) (fun _ => ?_) (fun h => absurd h (by decide))
        refine xr_iload_n C d_Mo_session_70 71 rfl rfl ?_
        refine xr_iconst (v := 1) C d_Mo_session_71 72 rfl (by decide) ?_
        refine xr_icmp_ne C d_Mo_session_72 75 85 rfl (by decide) (fun h => absurd rfl h) (fun _ => ?_)
        refine xr_aload_n C d_Mo_session_75 76 rfl rfl ?_
        refine xr_get C K_Mo 3 d_Mo_session_76 79 rfl q_943 (Or.inl rfl) rfl (mX_o hA) rfl ?_
        refine xr_iload C d_Mo_session_79 81 rfl rfl ?_
        refine xr_iald (j := (16 * i + q)) C d_Mo_session_81 82 rfl (mX_3 hA) rfl (by omega) (by omega) ?_
        refine xr_toi (show _ = (sD (S.2.1 i).1 q).2.1 from hsl.2.1) ?_
        refine xr_goto C d_Mo_session_82 92 (by decide) ?_
        exact xr_iret C d_Mo_session_92 (by omega) (by omega) ⟨_, rfl, z0, rfl, ht0, fun _ => rfl, hR0⟩
      · subst e
        rw [hfm, if_neg (show ¬ nI 2 = 0 by decide), if_neg (show ¬ nI 2 = 1 by decide), if_pos (show nI 2 = 2 from rfl)] at C
        refine xr_toi (if_pos (show (0 : Int32) ≤ nI 2 ∧ nI 2 ≤ 4 by decide)) ?_
        refine xr_if_ne C d_Mo_session_34 37 43 rfl (by decide) (fun _ => ?_) (fun h => absurd h (by decide))
        refine xr_bipush (v := 16) C d_Mo_session_43 45 rfl (by decide) ?_
        refine xr_iload_n C d_Mo_session_45 46 rfl rfl ?_
        refine xr_imul C d_Mo_session_46 47 rfl ?_
        refine xr_toi (show _ = nI (16 * i) from pk_mul 16 i) ?_
        refine xr_iload_n C d_Mo_session_47 48 rfl rfl ?_
        refine xr_iadd C d_Mo_session_48 49 rfl ?_
        refine xr_toi (show _ = nI ((16 * i) + q) from nI_add (16 * i) q) ?_
        refine xr_istore C d_Mo_session_49 51 rfl rfl rfl ?_
        refine xr_iload_n C d_Mo_session_51 52 rfl rfl ?_
        refine xr_iconst (v := 3) C d_Mo_session_52 53 rfl (by decide) ?_
        refine xr_icmp_ge C d_Mo_session_53 56 93 rfl (by decide) (fun h => absurd h (by decide)) (fun _ => ?_)
        refine xr_iload_n C d_Mo_session_56 57 rfl rfl ?_
        refine xr_if_ne C d_Mo_session_57 60 70 rfl (by decide) (fun _ => ?_) (fun h => absurd h (by decide))
        refine xr_iload_n C d_Mo_session_70 71 rfl rfl ?_
        refine xr_iconst (v := 1) C d_Mo_session_71 72 rfl (by decide) ?_
        refine xr_icmp_ne C d_Mo_session_72 75 85 rfl (by decide) (fun _ => ?_) (fun h => absurd h (by decide))
        refine xr_aload_n C d_Mo_session_85 86 rfl rfl ?_
        refine xr_get C K_Mo 4 d_Mo_session_86 89 rfl q_944 (Or.inl rfl) rfl (mX_o hA) rfl ?_
        refine xr_iload C d_Mo_session_89 91 rfl rfl ?_
        refine xr_iald (j := (16 * i + q)) C d_Mo_session_91 92 rfl (mX_4 hA) rfl (by omega) (by omega) ?_
        refine xr_toi (show _ = (sD (S.2.1 i).1 q).2.2.1 from hsl.2.2.1) ?_
        exact xr_iret C d_Mo_session_92 (by omega) (by omega) ⟨_, rfl, z0, rfl, ht0, fun _ => rfl, hR0⟩
      · subst e
        rw [hfm, if_neg (show ¬ nI 3 = 0 by decide), if_neg (show ¬ nI 3 = 1 by decide), if_neg (show ¬ nI 3 = 2 by decide), if_pos (show nI 3 = 3 from rfl)] at C
        refine xr_toi (if_pos (show (0 : Int32) ≤ nI 3 ∧ nI 3 ≤ 4 by decide)) ?_
        refine xr_if_ne C d_Mo_session_34 37 43 rfl (by decide) (fun _ => ?_) (fun h => absurd h (by decide))
        refine xr_bipush (v := 16) C d_Mo_session_43 45 rfl (by decide) ?_
        refine xr_iload_n C d_Mo_session_45 46 rfl rfl ?_
        refine xr_imul C d_Mo_session_46 47 rfl ?_
        refine xr_toi (show _ = nI (16 * i) from pk_mul 16 i) ?_
        refine xr_iload_n C d_Mo_session_47 48 rfl rfl ?_
        refine xr_iadd C d_Mo_session_48 49 rfl ?_
        refine xr_toi (show _ = nI ((16 * i) + q) from nI_add (16 * i) q) ?_
        refine xr_istore C d_Mo_session_49 51 rfl rfl rfl ?_
        refine xr_iload_n C d_Mo_session_51 52 rfl rfl ?_
        refine xr_iconst (v := 3) C d_Mo_session_52 53 rfl (by decide) ?_
        refine xr_icmp_ge C d_Mo_session_53 56 93 rfl (by decide) (fun _ => ?_) (fun h => absurd h (by decide))
        refine xr_iload_n C d_Mo_session_93 94 rfl rfl ?_
        refine xr_iconst (v := 3) C d_Mo_session_94 95 rfl (by decide) ?_
        refine xr_icmp_ne C d_Mo_session_95 98 108 rfl (by decide) (fun h => absurd rfl h) (fun _ => ?_)
        refine xr_aload_n C d_Mo_session_98 99 rfl rfl ?_
        refine xr_get C K_Mo 5 d_Mo_session_99 102 rfl q_945 (Or.inl rfl) rfl (mX_o hA) rfl ?_
        refine xr_iload C d_Mo_session_102 104 rfl rfl ?_
        refine xr_iald (j := (16 * i + q)) C d_Mo_session_104 105 rfl (mX_5 hA) rfl (by omega) (by omega) ?_
        refine xr_toi (show _ = (sD (S.2.1 i).1 q).2.2.2.1 from hsl.2.2.2.1) ?_
        refine xr_goto C d_Mo_session_105 115 (by decide) ?_
        exact xr_iret C d_Mo_session_115 (by omega) (by omega) ⟨_, rfl, z0, rfl, ht0, fun _ => rfl, hR0⟩
      · subst e
        rw [hfm, if_neg (show ¬ nI 4 = 0 by decide), if_neg (show ¬ nI 4 = 1 by decide), if_neg (show ¬ nI 4 = 2 by decide), if_neg (show ¬ nI 4 = 3 by decide), if_pos (show nI 4 = 4 from rfl)] at C
        refine xr_toi (if_pos (show (0 : Int32) ≤ nI 4 ∧ nI 4 ≤ 4 by decide)) ?_
        refine xr_if_ne C d_Mo_session_34 37 43 rfl (by decide) (fun _ => ?_) (fun h => absurd h (by decide))
        refine xr_bipush (v := 16) C d_Mo_session_43 45 rfl (by decide) ?_
        refine xr_iload_n C d_Mo_session_45 46 rfl rfl ?_
        refine xr_imul C d_Mo_session_46 47 rfl ?_
        refine xr_toi (show _ = nI (16 * i) from pk_mul 16 i) ?_
        refine xr_iload_n C d_Mo_session_47 48 rfl rfl ?_
        refine xr_iadd C d_Mo_session_48 49 rfl ?_
        refine xr_toi (show _ = nI ((16 * i) + q) from nI_add (16 * i) q) ?_
        refine xr_istore C d_Mo_session_49 51 rfl rfl rfl ?_
        refine xr_iload_n C d_Mo_session_51 52 rfl rfl ?_
        refine xr_iconst (v := 3) C d_Mo_session_52 53 rfl (by decide) ?_
        refine xr_icmp_ge C d_Mo_session_53 56 93 rfl (by decide) (fun _ => ?_) (fun h => absurd h (by decide))
        refine xr_iload_n C d_Mo_session_93 94 rfl rfl ?_
        refine xr_iconst (v := 3) C d_Mo_session_94 95 rfl (by decide) ?_
        refine xr_icmp_ne C d_Mo_session_95 98 108 rfl (by decide) (fun _ => ?_) (fun h => absurd h (by decide))
        refine xr_aload_n C d_Mo_session_108 109 rfl rfl ?_
        refine xr_get C K_Mo 6 d_Mo_session_109 112 rfl q_946 (Or.inl rfl) rfl (mX_o hA) rfl ?_
        refine xr_iload C d_Mo_session_112 114 rfl rfl ?_
        refine xr_iald (j := (16 * i + q)) C d_Mo_session_114 115 rfl (mX_6 hA) rfl (by omega) (by omega) ?_
        refine xr_toi (show _ = nI (sD (S.2.1 i).1 q).2.2.2.2.length from hsl.2.2.2.2.1) ?_
        exact xr_iret C d_Mo_session_115 (by omega) (by omega) ⟨_, rfl, z0, rfl, ht0, fun _ => rfl, hR0⟩
