/-! The model's calls: row, make. -/
set_option maxRecDepth 100000 in
set_option maxHeartbeats 4000000 in
theorem d_Mo_row {l : Launch} {D : va_G} {H0 : Heap} {X0 : xH} {A : Nat → Nat} {s : MS} (hA : mInj A) {S : St} (hR : mRel s S) (hW : wf S) (hV : inv2 S) {z : Int32} : xMet l D H0 y_Mo_row b_Mo_row 4 (some .int) [] 2 0 0 [.ref (A 0), .int z] (mX D X0 A s) (fun o X' => ∃ v : Int32, o = .inl (some (.int v)) ∧ ∃ s', X' = mX D X0 A s' ∧ s'.1 0 = nI (fRow S z).1 ∧ ((fRow S z).1 = 0 → v = (fRow S z).2.1) ∧ mRel s' (fRow S z).2.2) := by
  refine ⟨[some (.ref (A 0)), some (.int z), none, none], rfl, Nat.le_of_ble_eq_true rfl, fun E hD hH hl _ C => ?_⟩
  subst hD
  subst hH
  subst hl
  refine xr_aload_n C d_Mo_row_0 1 rfl rfl ?_
  refine xr_iconst (v := 0) C d_Mo_row_1 2 rfl (by decide) ?_
  refine xr_put C K_Mo 0 d_Mo_row_2 5 rfl q_940 (Or.inl rfl) rfl rfl rfl rfl (mX_o hA) rfl rfl ?_
  obtain ⟨z0, hz0⟩ : ∃ zz9, zz9 = setS s 0 (nI 0) := ⟨_, rfl⟩
  refine xG.eqX (show _ = mX E.D X0 A z0 from (mX_f0 (v := (nI 0)) hA).trans (by rw [hz0])) ?_
  have hR0 : mRel z0 S := by rw [hz0]; exact mRel_f hR
  have ht0 : z0.1 0 = 0 := by rw [hz0]; rfl
  refine xr_iload_n C d_Mo_row_5 6 rfl rfl ?_
  refine xr_callS C (c_Mo_isMachine) k_Mo_isMachine d_Mo_row_6 9 rfl (Or.inl q_1032) s_Mo_isMachine in_Mo_isMachine h_Mo_isMachine rfl ⟨Nat.le_of_ble_eq_true rfl, Nat.le_of_ble_eq_true rfl, Nat.le_of_ble_eq_true rfl⟩ (by omega) (by omega) (fun v9 X9 hP => ?_) (fun _ _ h => absurd h.1 (by simp))
  obtain ⟨h1, rfl⟩ := hP
  cases h1
  rcases mach_ix z with hz | ⟨i, hi, rfl⟩
  · have hf : fRow S z = (1, 0, S) := if_neg (notM hz)
    rw [hf] at C
    refine xr_toi (if_neg (notM hz)) ?_
    refine xr_if_ne C d_Mo_row_9 12 18 rfl (by decide) (fun h => absurd rfl h) (fun _ => ?_)
    refine xr_aload_n C d_Mo_row_12 13 rfl rfl ?_
    refine xr_iconst (v := 1) C d_Mo_row_13 14 rfl (by decide) ?_
    refine xr_callV C (c_Mo_fail hA) k_Mo_fail d_Mo_row_14 17 rfl (mX_o hA) rfl (Or.inl q_1023) v_Mo_fail e_Mo_fail h_Mo_fail rfl ⟨Nat.le_of_ble_eq_true rfl, Nat.le_of_ble_eq_true rfl, Nat.le_of_ble_eq_true rfl⟩ (by omega) (by omega) (fun v9 X9 hP => ?_) (fun _ _ h => absurd h.1 (by simp))
    obtain ⟨h1, rfl⟩ := hP
    cases h1
    exact xr_iret C d_Mo_row_17 (by omega) (by omega) ⟨_, rfl, _, rfl, rfl, fun h => absurd h (show ¬ (1 : Nat) = 0 by decide), mRel_f hR0⟩
  · obtain ⟨hs1, hs2, hs3⟩ := hR0.2.2.1 i hi
    obtain ⟨w1, w2, w3, w4⟩ := hW.2 i hi
    have w1l := w1.1
    have w2l := w2.1
    have hfm : fRow S (nI i) = (0, nI (telM (S.2.1 i).1 (S.2.1 i).2.1).length, (S.1, S.2.1, telM (S.2.1 i).1 (S.2.1 i).2.1, S.2.2.2)) := by
      unfold fRow
      rw [if_pos (isM_of hi), mIx_nI (by omega)]
    rw [hfm] at C
    have htop := rb_top w1 w2
    refine xr_toi (if_pos (isM_of hi)) ?_
    refine xr_if_ne C d_Mo_row_9 12 18 rfl (by decide) (fun _ => ?_) (fun h => absurd h (by decide))
    refine xr_aload_n C d_Mo_row_18 19 rfl rfl ?_
    refine xr_iconst (v := 0) C d_Mo_row_19 20 rfl (by decide) ?_
    refine xr_put C K_Mo 21 d_Mo_row_20 23 rfl q_961 (Or.inl rfl) rfl rfl rfl rfl (mX_o hA) rfl rfl ?_
    obtain ⟨z1, hz1⟩ : ∃ zz9, zz9 = setS z0 21 (nI 0) := ⟨_, rfl⟩
    refine xG.eqX (show _ = mX E.D X0 A z1 from (mX_f21 (v := (nI 0)) hA).trans (by rw [hz1])) ?_
    have hf01 : mFr [21] z0 z1 := by rw [hz1]; exact mFr_S (by decide)
    have hr1 : rR z1 [] := ⟨by rw [hz1]; rfl, fun j hj => absurd hj (Nat.not_lt_zero _)⟩
    have hS1 := hs1.fr hf01 (by decide)
    have hE1 := hs2.fr hf01 (by decide)
    have loopE : ∀ (r c : Nat) (y : MS) (x3 : Option Value), c + r = (S.2.1 i).2.1.length → mFr [21, 22] z1 y → rR y (num (nI (S.2.1 i).1.length) 4 ++ telS (S.2.1 i).1 ++ num (nI (S.2.1 i).2.1.length) 4 ++ telE ((S.2.1 i).2.1.take c)) → xG E (mX E.D X0 A y) 0 0 165 [some (.ref (A 0)), some (.int (nI i)), some (.int (nI (128 * i + c))), x3] [] := by
      intro r
      induction r with
      | zero =>
        intro c y x3 hcr y1 y2
        have hEy := hE1.fr y1 (by decide)
        refine xr_iload_n C d_Mo_row_165 166 rfl rfl ?_
        refine xr_sipush (v := 128) C d_Mo_row_166 169 rfl (by decide) ?_
        refine xr_iload_n C d_Mo_row_169 170 rfl rfl ?_
        refine xr_imul C d_Mo_row_170 171 rfl ?_
        refine xr_toi (show _ = nI (128 * i) from pk_mul 128 i) ?_
        refine xr_aload_n C d_Mo_row_171 172 rfl rfl ?_
        refine xr_get C K_Mo 8 d_Mo_row_172 175 rfl q_948 (Or.inl rfl) rfl (mX_o hA) rfl ?_
        refine xr_iload_n C d_Mo_row_175 176 rfl rfl ?_
        refine xr_iald (j := i) C d_Mo_row_176 177 rfl (mX_8 hA) rfl (by omega) (by omega) ?_
        refine xr_toi (show _ = nI ((S.2.1 i).2.1.length) from hEy.1) ?_
        refine xr_iadd C d_Mo_row_177 178 rfl ?_
        refine xr_toi (show _ = nI ((128 * i) + ((S.2.1 i).2.1.length)) from nI_add (128 * i) ((S.2.1 i).2.1.length)) ?_
        refine xr_icmp_ge C d_Mo_row_178 181 264 rfl (by decide) (fun _ => ?_) (fun h => absurd (nI_le (show 128 * i + (S.2.1 i).2.1.length ≤ 128 * i + c by omega) (by omega)) h)
        rw [List.take_of_length_le (show (S.2.1 i).2.1.length ≤ c by omega)] at y2
        refine xr_aload_n C d_Mo_row_264 265 rfl rfl ?_
        refine xr_get C K_Mo 21 d_Mo_row_265 268 rfl q_961 (Or.inl rfl) rfl (mX_o hA) rfl ?_
        refine xr_toi (show _ = nI (telM (S.2.1 i).1 (S.2.1 i).2.1).length from y2.1) ?_
        have hfA : mFr [21, 22] z0 y := (hf01.mono (by decide)).trans y1
        exact xr_iret C d_Mo_row_268 (by omega) (by omega) ⟨_, rfl, y, rfl, by rw [(hfA 0 (by decide)).1]; exact ht0, fun _ => rfl, by rw [(hfA 14 (by decide)).1]; exact hR0.1, hR0.2.1.fr hfA (by decide), fun q hq => ⟨(hR0.2.2.1 q hq).1.fr hfA (by decide), (hR0.2.2.1 q hq).2.1.fr hfA (by decide), by rw [(hfA 13 (by decide)).2.1]; exact (hR0.2.2.1 q hq).2.2⟩, y2, by rw [(hfA 20 (by decide)).1]; exact hR0.2.2.2.2⟩
      | succ r ih =>
        intro c y x3 hcr y1 y2
        have hEy := hE1.fr y1 (by decide)
        have c1 : c < (S.2.1 i).2.1.length := by omega
        obtain ⟨e, hee⟩ : ∃ e, e = eD (S.2.1 i).2.1 c := ⟨_, rfl⟩
        have hek := w2.2.2 _ (eD_mem c1)
        rw [← hee] at hek
        have he1 := hek.2.1
        have he2 := hek.2.2
        have hmo := rbE_mono (ss := (S.2.1 i).2.1) (i := c + 1)
        rw [rbE_take c1, ← hee] at hmo
        have hsl1 := hE1.2 c c1
        rw [← hee] at hsl1
        obtain ⟨B, hB⟩ : ∃ B, B = num (nI (S.2.1 i).1.length) 4 ++ telS (S.2.1 i).1 ++ num (nI (S.2.1 i).2.1.length) 4 ++ telE ((S.2.1 i).2.1.take c) := ⟨_, rfl⟩
        have hBl : B.length = 8 + rbS (S.2.1 i).1 + rbE ((S.2.1 i).2.1.take c) := by
          rw [hB]
          simp only [List.length_append, num_len, telS_len, telE_len]
          omega
        rw [← hB] at y2
        refine xr_iload_n C d_Mo_row_165 166 rfl rfl ?_
        refine xr_sipush (v := 128) C d_Mo_row_166 169 rfl (by decide) ?_
        refine xr_iload_n C d_Mo_row_169 170 rfl rfl ?_
        refine xr_imul C d_Mo_row_170 171 rfl ?_
        refine xr_toi (show _ = nI (128 * i) from pk_mul 128 i) ?_
        refine xr_aload_n C d_Mo_row_171 172 rfl rfl ?_
        refine xr_get C K_Mo 8 d_Mo_row_172 175 rfl q_948 (Or.inl rfl) rfl (mX_o hA) rfl ?_
        refine xr_iload_n C d_Mo_row_175 176 rfl rfl ?_
        refine xr_iald (j := i) C d_Mo_row_176 177 rfl (mX_8 hA) rfl (by omega) (by omega) ?_
        refine xr_toi (show _ = nI ((S.2.1 i).2.1.length) from hEy.1) ?_
        refine xr_iadd C d_Mo_row_177 178 rfl ?_
        refine xr_toi (show _ = nI ((128 * i) + ((S.2.1 i).2.1.length)) from nI_add (128 * i) ((S.2.1 i).2.1.length)) ?_
        refine xr_icmp_ge C d_Mo_row_178 181 264 rfl (by decide) (fun h => absurd h (nI_ge (show 128 * i + c < 128 * i + (S.2.1 i).2.1.length by omega) (by omega))) (fun _ => ?_)
        refine xr_aload_n C d_Mo_row_181 182 rfl rfl ?_
        refine xr_aload_n C d_Mo_row_182 183 rfl rfl ?_
        refine xr_get C K_Mo 9 d_Mo_row_183 186 rfl q_949 (Or.inl rfl) rfl (mX_o hA) rfl ?_
        refine xr_iload_n C d_Mo_row_186 187 rfl rfl ?_
        refine xr_iald (j := (128 * i + c)) C d_Mo_row_187 188 rfl (mX_9 hA) rfl (by omega) (by omega) ?_
        refine xr_toi (show _ = nI e.1.length from (hsl1.1.fr y1 (by decide) (by decide)).1) ?_
        refine xr_callV C (c_Mo_add hA (b := nby (nI e.1.length) 0) y2 (by omega) ((by rw [u8_ub (nby (nI e.1.length) 0) |>.symm, ← nby_n (n := e.1.length) (k := 0) (by omega) (by omega)]; exact (pk_andN (by omega) 8 (by decide)).trans (by congr 1; omega) : nI e.1.length &&& 255 = nI (ub (nby (nI e.1.length) 0))))) k_Mo_add d_Mo_row_188 191 rfl (mX_o hA) rfl (Or.inl q_1059) v_Mo_add e_Mo_add h_Mo_add rfl ⟨Nat.le_of_ble_eq_true rfl, Nat.le_of_ble_eq_true rfl, Nat.le_of_ble_eq_true rfl⟩ (by omega) (by omega) (fun v9 X9 hP => ?_) (fun _ _ h => absurd h.1 (by simp))
        obtain ⟨h1, a1, rfl, g1, g2⟩ := hP
        cases h1
        refine xr_aload_n C d_Mo_row_191 192 rfl rfl ?_
        refine xr_aload_n C d_Mo_row_192 193 rfl rfl ?_
        refine xr_get C K_Mo 11 d_Mo_row_193 196 rfl q_951 (Or.inl rfl) rfl (mX_o hA) rfl ?_
        refine xr_iload_n C d_Mo_row_196 197 rfl rfl ?_
        refine xr_iald (j := (128 * i + c)) C d_Mo_row_197 198 rfl (mX_11 hA) rfl (by omega) (by omega) ?_
        refine xr_toi (show _ = nI e.2.length from (hsl1.2.fr (y1.trans g2) (by decide) (by decide)).1) ?_
        refine xr_iconst (v := 2) C d_Mo_row_198 199 rfl (by decide) ?_
        refine xr_callV C (c_Mo_addNumber hA (v := nI e.2.length) (n := 2) g1 (by rw [List.length_append, List.length_singleton]; omega) (by omega)) k_Mo_addNumber d_Mo_row_199 202 rfl (mX_o hA) rfl (Or.inl q_1135) v_Mo_addNumber e_Mo_addNumber h_Mo_addNumber rfl ⟨Nat.le_of_ble_eq_true rfl, Nat.le_of_ble_eq_true rfl, Nat.le_of_ble_eq_true rfl⟩ (by omega) (by omega) (fun v9 X9 hP => ?_) (fun _ _ h => absurd h.1 (by simp))
        obtain ⟨h1, a2, rfl, g3, g4⟩ := hP
        cases h1
        refine xr_iconst (v := 0) C d_Mo_row_202 203 rfl (by decide) ?_
        refine xr_istore_n C d_Mo_row_203 204 rfl rfl rfl ?_
        have fa2 : mFr [21, 22] z1 a2 := (y1.trans g2).trans g4
        have loopV : ∀ (r2 b : Nat) (u : MS), b + r2 = e.2.length → mFr [21, 22] z1 u → rR u (B ++ [nby (nI e.1.length) 0] ++ num (nI e.2.length) 2 ++ e.1 ++ e.2.take b) → xG E (mX E.D X0 A u) 0 0 232 [some (.ref (A 0)), some (.int (nI i)), some (.int (nI (128 * i + c))), some (.int (nI b))] [] := by
          intro r2
          induction r2 with
          | zero =>
            intro b u hb u1 u2
            have hvu := hsl1.2.fr u1 (by decide) (by decide)
            refine xr_iload_n C d_Mo_row_232 233 rfl rfl ?_
            refine xr_aload_n C d_Mo_row_233 234 rfl rfl ?_
            refine xr_get C K_Mo 11 d_Mo_row_234 237 rfl q_951 (Or.inl rfl) rfl (mX_o hA) rfl ?_
            refine xr_iload_n C d_Mo_row_237 238 rfl rfl ?_
            refine xr_iald (j := (128 * i + c)) C d_Mo_row_238 239 rfl (mX_11 hA) rfl (by omega) (by omega) ?_
            refine xr_toi (show _ = nI e.2.length from hvu.1) ?_
            refine xr_icmp_ge C d_Mo_row_239 242 258 rfl (by decide) (fun _ => ?_) (fun h => absurd (nI_le (show e.2.length ≤ b by omega) (by omega)) h)
            refine xr_iinc (v := 1) C d_Mo_row_258 261 rfl rfl rfl rfl (by decide) ?_
            refine xr_goto C d_Mo_row_261 165 (by decide) ?_
            rw [List.take_of_length_le (show e.2.length ≤ b by omega)] at u2
            refine xG.eqL (show _ = [some (Value.ref (A 0)), some (Value.int (nI i)), some (Value.int (nI (128 * i + (c + 1)))), some (Value.int (nI b))] by rw [show 128 * i + (c + 1) = 128 * i + c + 1 by omega, ← nI_one (128 * i + c)]; rfl) ?_
            refine ih (c + 1) u _ (by omega) u1 ?_
            rw [telE_take c1, ← List.append_assoc, ← hB, ← hee]
            unfold tellE
            rw [show num (nI e.1.length) 1 = [nby (nI e.1.length) 0] from rfl, ← List.append_assoc, ← List.append_assoc, ← List.append_assoc]
            exact u2
          | succ r2 ih2 =>
            intro b u hb u1 u2
            have hvu := hsl1.2.fr u1 (by decide) (by decide)
            have b1 : b < e.2.length := by omega
            refine xr_iload_n C d_Mo_row_232 233 rfl rfl ?_
            refine xr_aload_n C d_Mo_row_233 234 rfl rfl ?_
            refine xr_get C K_Mo 11 d_Mo_row_234 237 rfl q_951 (Or.inl rfl) rfl (mX_o hA) rfl ?_
            refine xr_iload_n C d_Mo_row_237 238 rfl rfl ?_
            refine xr_iald (j := (128 * i + c)) C d_Mo_row_238 239 rfl (mX_11 hA) rfl (by omega) (by omega) ?_
            refine xr_toi (show _ = nI e.2.length from hvu.1) ?_
            refine xr_icmp_ge C d_Mo_row_239 242 258 rfl (by decide) (fun h => absurd h (nI_ge b1 (by omega))) (fun _ => ?_)
            refine xr_aload_n C d_Mo_row_242 243 rfl rfl ?_
            refine xr_aload_n C d_Mo_row_243 244 rfl rfl ?_
            refine xr_iload_n C d_Mo_row_244 245 rfl rfl ?_
            refine xr_iload_n C d_Mo_row_245 246 rfl rfl ?_
            refine xr_callV C (c_Mo_valueByte hA (by omega) hvu (show b < 104 by omega)) k_Mo_valueByte d_Mo_row_246 249 rfl (mX_o hA) rfl (Or.inl q_1092) v_Mo_valueByte e_Mo_valueByte h_Mo_valueByte rfl ⟨Nat.le_of_ble_eq_true rfl, Nat.le_of_ble_eq_true rfl, Nat.le_of_ble_eq_true rfl⟩ (by omega) (by omega) (fun v9 X9 hP => ?_) (fun _ _ h => absurd h.1 (by simp))
            obtain ⟨h1, rfl⟩ := hP
            cases h1
            refine xr_callV C (c_Mo_add hA (b := e.2.getD b 0) u2 (by simp only [List.length_append, num_len, List.length_singleton, List.length_take]; omega) (by rw [pad_in b1, ← u8_ub, u8u8, u8_ub])) k_Mo_add d_Mo_row_249 252 rfl (mX_o hA) rfl (Or.inl q_1059) v_Mo_add e_Mo_add h_Mo_add rfl ⟨Nat.le_of_ble_eq_true rfl, Nat.le_of_ble_eq_true rfl, Nat.le_of_ble_eq_true rfl⟩ (by omega) (by omega) (fun v9 X9 hP => ?_) (fun _ _ h => absurd h.1 (by simp))
            obtain ⟨h1, u9, rfl, h3, h4⟩ := hP
            cases h1
            refine xr_iinc (v := 1) C d_Mo_row_252 255 rfl rfl rfl rfl (by decide) ?_
            refine xr_goto C d_Mo_row_255 232 (by decide) ?_
            refine xG.eqL (show _ = [some (Value.ref (A 0)), some (Value.int (nI i)), some (Value.int (nI (128 * i + c))), some (Value.int (nI (b + 1)))] by rw [← nI_one b]; rfl) ?_
            refine ih2 (b + 1) u9 (by omega) (u1.trans h4) ?_
            rw [takeg 0 b1, ← List.append_assoc]
            exact h3
        have loopK : ∀ (r2 b : Nat) (u : MS), b + r2 = e.1.length → mFr [21, 22] z1 u → rR u (B ++ [nby (nI e.1.length) 0] ++ num (nI e.2.length) 2 ++ e.1.take b) → xG E (mX E.D X0 A u) 0 0 204 [some (.ref (A 0)), some (.int (nI i)), some (.int (nI (128 * i + c))), some (.int (nI b))] [] := by
          intro r2
          induction r2 with
          | zero =>
            intro b u hb u1 u2
            have hku := hsl1.1.fr u1 (by decide) (by decide)
            refine xr_iload_n C d_Mo_row_204 205 rfl rfl ?_
            refine xr_aload_n C d_Mo_row_205 206 rfl rfl ?_
            refine xr_get C K_Mo 9 d_Mo_row_206 209 rfl q_949 (Or.inl rfl) rfl (mX_o hA) rfl ?_
            refine xr_iload_n C d_Mo_row_209 210 rfl rfl ?_
            refine xr_iald (j := (128 * i + c)) C d_Mo_row_210 211 rfl (mX_9 hA) rfl (by omega) (by omega) ?_
            refine xr_toi (show _ = nI e.1.length from hku.1) ?_
            refine xr_icmp_ge C d_Mo_row_211 214 230 rfl (by decide) (fun _ => ?_) (fun h => absurd (nI_le (show e.1.length ≤ b by omega) (by omega)) h)
            refine xr_iconst (v := 0) C d_Mo_row_230 231 rfl (by decide) ?_
            refine xr_istore_n C d_Mo_row_231 232 rfl rfl rfl ?_
            rw [List.take_of_length_le (show e.1.length ≤ b by omega)] at u2
            refine loopV e.2.length 0 u (by omega) u1 ?_
            rw [List.take_zero, List.append_nil]
            exact u2
          | succ r2 ih2 =>
            intro b u hb u1 u2
            have hku := hsl1.1.fr u1 (by decide) (by decide)
            have b1 : b < e.1.length := by omega
            refine xr_iload_n C d_Mo_row_204 205 rfl rfl ?_
            refine xr_aload_n C d_Mo_row_205 206 rfl rfl ?_
            refine xr_get C K_Mo 9 d_Mo_row_206 209 rfl q_949 (Or.inl rfl) rfl (mX_o hA) rfl ?_
            refine xr_iload_n C d_Mo_row_209 210 rfl rfl ?_
            refine xr_iald (j := (128 * i + c)) C d_Mo_row_210 211 rfl (mX_9 hA) rfl (by omega) (by omega) ?_
            refine xr_toi (show _ = nI e.1.length from hku.1) ?_
            refine xr_icmp_ge C d_Mo_row_211 214 230 rfl (by decide) (fun h => absurd h (nI_ge b1 (by omega))) (fun _ => ?_)
            refine xr_aload_n C d_Mo_row_214 215 rfl rfl ?_
            refine xr_aload_n C d_Mo_row_215 216 rfl rfl ?_
            refine xr_iload_n C d_Mo_row_216 217 rfl rfl ?_
            refine xr_iload_n C d_Mo_row_217 218 rfl rfl ?_
            refine xr_callV C (c_Mo_keyByte hA (by omega) hku (show b < 32 by omega)) k_Mo_keyByte d_Mo_row_218 221 rfl (mX_o hA) rfl (Or.inl q_1127) v_Mo_keyByte e_Mo_keyByte h_Mo_keyByte rfl ⟨Nat.le_of_ble_eq_true rfl, Nat.le_of_ble_eq_true rfl, Nat.le_of_ble_eq_true rfl⟩ (by omega) (by omega) (fun v9 X9 hP => ?_) (fun _ _ h => absurd h.1 (by simp))
            obtain ⟨h1, rfl⟩ := hP
            cases h1
            refine xr_callV C (c_Mo_add hA (b := e.1.getD b 0) u2 (by simp only [List.length_append, num_len, List.length_singleton, List.length_take]; omega) (by rw [pad_in b1, ← u8_ub, u8u8, u8_ub])) k_Mo_add d_Mo_row_221 224 rfl (mX_o hA) rfl (Or.inl q_1059) v_Mo_add e_Mo_add h_Mo_add rfl ⟨Nat.le_of_ble_eq_true rfl, Nat.le_of_ble_eq_true rfl, Nat.le_of_ble_eq_true rfl⟩ (by omega) (by omega) (fun v9 X9 hP => ?_) (fun _ _ h => absurd h.1 (by simp))
            obtain ⟨h1, u9, rfl, h3, h4⟩ := hP
            cases h1
            refine xr_iinc (v := 1) C d_Mo_row_224 227 rfl rfl rfl rfl (by decide) ?_
            refine xr_goto C d_Mo_row_227 204 (by decide) ?_
            refine xG.eqL (show _ = [some (Value.ref (A 0)), some (Value.int (nI i)), some (Value.int (nI (128 * i + c))), some (Value.int (nI (b + 1)))] by rw [← nI_one b]; rfl) ?_
            refine ih2 (b + 1) u9 (by omega) (u1.trans h4) ?_
            rw [takeg 0 b1, ← List.append_assoc]
            exact h3
        refine loopK e.1.length 0 a2 (by omega) fa2 ?_
        rw [List.take_zero, List.append_nil]
        exact g3
    have loopS : ∀ (r c : Nat) (y : MS) (x3 : Option Value), c + r = (S.2.1 i).1.length → mFr [21, 22] z1 y → rR y (num (nI (S.2.1 i).1.length) 4 ++ telS ((S.2.1 i).1.take c)) → xG E (mX E.D X0 A y) 0 0 39 [some (.ref (A 0)), some (.int (nI i)), some (.int (nI (16 * i + c))), x3] [] := by
      intro r
      induction r with
      | zero =>
        intro c y x3 hcr y1 y2
        have hSy := hS1.fr y1 (by decide)
        have hEy := hE1.fr y1 (by decide)
        refine xr_iload_n C d_Mo_row_39 40 rfl rfl ?_
        refine xr_bipush (v := 16) C d_Mo_row_40 42 rfl (by decide) ?_
        refine xr_iload_n C d_Mo_row_42 43 rfl rfl ?_
        refine xr_imul C d_Mo_row_43 44 rfl ?_
        refine xr_toi (show _ = nI (16 * i) from pk_mul 16 i) ?_
        refine xr_aload_n C d_Mo_row_44 45 rfl rfl ?_
        refine xr_get C K_Mo 1 d_Mo_row_45 48 rfl q_941 (Or.inl rfl) rfl (mX_o hA) rfl ?_
        refine xr_iload_n C d_Mo_row_48 49 rfl rfl ?_
        refine xr_iald (j := i) C d_Mo_row_49 50 rfl (mX_1 hA) rfl (by omega) (by omega) ?_
        refine xr_toi (show _ = nI ((S.2.1 i).1.length) from hSy.1) ?_
        refine xr_iadd C d_Mo_row_50 51 rfl ?_
        refine xr_toi (show _ = nI ((16 * i) + ((S.2.1 i).1.length)) from nI_add (16 * i) ((S.2.1 i).1.length)) ?_
        refine xr_icmp_ge C d_Mo_row_51 54 148 rfl (by decide) (fun _ => ?_) (fun h => absurd (nI_le (show 16 * i + (S.2.1 i).1.length ≤ 16 * i + c by omega) (by omega)) h)
        refine xr_aload_n C d_Mo_row_148 149 rfl rfl ?_
        refine xr_aload_n C d_Mo_row_149 150 rfl rfl ?_
        refine xr_get C K_Mo 8 d_Mo_row_150 153 rfl q_948 (Or.inl rfl) rfl (mX_o hA) rfl ?_
        refine xr_iload_n C d_Mo_row_153 154 rfl rfl ?_
        refine xr_iald (j := i) C d_Mo_row_154 155 rfl (mX_8 hA) rfl (by omega) (by omega) ?_
        refine xr_toi (show _ = nI ((S.2.1 i).2.1.length) from hEy.1) ?_
        refine xr_iconst (v := 4) C d_Mo_row_155 156 rfl (by decide) ?_
        rw [List.take_of_length_le (show (S.2.1 i).1.length ≤ c by omega)] at y2
        refine xr_callV C (c_Mo_addNumber hA (v := nI (S.2.1 i).2.1.length) (n := 4) y2 (by simp only [List.length_append, num_len, telS_len]; omega) (by omega)) k_Mo_addNumber d_Mo_row_156 159 rfl (mX_o hA) rfl (Or.inl q_1135) v_Mo_addNumber e_Mo_addNumber h_Mo_addNumber rfl ⟨Nat.le_of_ble_eq_true rfl, Nat.le_of_ble_eq_true rfl, Nat.le_of_ble_eq_true rfl⟩ (by omega) (by omega) (fun v9 X9 hP => ?_) (fun _ _ h => absurd h.1 (by simp))
        obtain ⟨h1, a1, rfl, g1, g2⟩ := hP
        cases h1
        refine xr_sipush (v := 128) C d_Mo_row_159 162 rfl (by decide) ?_
        refine xr_iload_n C d_Mo_row_162 163 rfl rfl ?_
        refine xr_imul C d_Mo_row_163 164 rfl ?_
        refine xr_toi (show _ = nI (128 * i) from pk_mul 128 i) ?_
        refine xr_istore_n C d_Mo_row_164 165 rfl rfl rfl ?_
        exact loopE (S.2.1 i).2.1.length 0 a1 x3 (by omega) (y1.trans g2) (by rw [List.take_zero, show telE [] = [] from rfl, List.append_nil]; exact g1)
      | succ r ih =>
        intro c y x3 hcr y1 y2
        have hSy := hS1.fr y1 (by decide)
        have c1 : c < (S.2.1 i).1.length := by omega
        obtain ⟨x, hxx⟩ : ∃ x, x = sD (S.2.1 i).1 c := ⟨_, rfl⟩
        have hxl := w1.2 _ (sD_mem c1)
        rw [← hxx] at hxl
        have hmo := rbS_mono (ss := (S.2.1 i).1) (i := c + 1)
        rw [rbS_take c1, ← hxx] at hmo
        have hsl1 := hS1.2 c c1
        rw [← hxx] at hsl1
        obtain ⟨B, hB⟩ : ∃ B, B = num (nI (S.2.1 i).1.length) 4 ++ telS ((S.2.1 i).1.take c) := ⟨_, rfl⟩
        have hBl : B.length = 4 + rbS ((S.2.1 i).1.take c) := by
          rw [hB]
          simp only [List.length_append, num_len, telS_len]
        rw [← hB] at y2
        refine xr_iload_n C d_Mo_row_39 40 rfl rfl ?_
        refine xr_bipush (v := 16) C d_Mo_row_40 42 rfl (by decide) ?_
        refine xr_iload_n C d_Mo_row_42 43 rfl rfl ?_
        refine xr_imul C d_Mo_row_43 44 rfl ?_
        refine xr_toi (show _ = nI (16 * i) from pk_mul 16 i) ?_
        refine xr_aload_n C d_Mo_row_44 45 rfl rfl ?_
        refine xr_get C K_Mo 1 d_Mo_row_45 48 rfl q_941 (Or.inl rfl) rfl (mX_o hA) rfl ?_
        refine xr_iload_n C d_Mo_row_48 49 rfl rfl ?_
        refine xr_iald (j := i) C d_Mo_row_49 50 rfl (mX_1 hA) rfl (by omega) (by omega) ?_
        refine xr_toi (show _ = nI ((S.2.1 i).1.length) from hSy.1) ?_
        refine xr_iadd C d_Mo_row_50 51 rfl ?_
        refine xr_toi (show _ = nI ((16 * i) + ((S.2.1 i).1.length)) from nI_add (16 * i) ((S.2.1 i).1.length)) ?_
        refine xr_icmp_ge C d_Mo_row_51 54 148 rfl (by decide) (fun h => absurd h (nI_ge (show 16 * i + c < 16 * i + (S.2.1 i).1.length by omega) (by omega))) (fun _ => ?_)
        refine xr_aload_n C d_Mo_row_54 55 rfl rfl ?_
        refine xr_aload_n C d_Mo_row_55 56 rfl rfl ?_
        refine xr_get C K_Mo 2 d_Mo_row_56 59 rfl q_942 (Or.inl rfl) rfl (mX_o hA) rfl ?_
        refine xr_iload_n C d_Mo_row_59 60 rfl rfl ?_
        refine xr_iald (j := (16 * i + c)) C d_Mo_row_60 61 rfl (mX_2 hA) rfl (by omega) (by omega) ?_
        refine xr_toi (show _ = x.1 from (hsl1.fr y1 (by decide)).1) ?_
        refine xr_iconst (v := 4) C d_Mo_row_61 62 rfl (by decide) ?_
        refine xr_callV C (c_Mo_addNumber hA (v := x.1) (n := 4) y2 (by omega) (by omega)) k_Mo_addNumber d_Mo_row_62 65 rfl (mX_o hA) rfl (Or.inl q_1135) v_Mo_addNumber e_Mo_addNumber h_Mo_addNumber rfl ⟨Nat.le_of_ble_eq_true rfl, Nat.le_of_ble_eq_true rfl, Nat.le_of_ble_eq_true rfl⟩ (by omega) (by omega) (fun v9 X9 hP => ?_) (fun _ _ h => absurd h.1 (by simp))
        obtain ⟨h1, a1, rfl, g1, g2⟩ := hP
        cases h1
        have f1 := y1.trans g2
        refine xr_aload_n C d_Mo_row_65 66 rfl rfl ?_
        refine xr_aload_n C d_Mo_row_66 67 rfl rfl ?_
        refine xr_get C K_Mo 3 d_Mo_row_67 70 rfl q_943 (Or.inl rfl) rfl (mX_o hA) rfl ?_
        refine xr_iload_n C d_Mo_row_70 71 rfl rfl ?_
        refine xr_iald (j := (16 * i + c)) C d_Mo_row_71 72 rfl (mX_3 hA) rfl (by omega) (by omega) ?_
        refine xr_toi (show _ = x.2.1 from (hsl1.fr f1 (by decide)).2.1) ?_
        refine xr_iconst (v := 4) C d_Mo_row_72 73 rfl (by decide) ?_
        refine xr_callV C (c_Mo_addNumber hA (v := x.2.1) (n := 4) g1 (by simp only [List.length_append, num_len]; omega) (by omega)) k_Mo_addNumber d_Mo_row_73 76 rfl (mX_o hA) rfl (Or.inl q_1135) v_Mo_addNumber e_Mo_addNumber h_Mo_addNumber rfl ⟨Nat.le_of_ble_eq_true rfl, Nat.le_of_ble_eq_true rfl, Nat.le_of_ble_eq_true rfl⟩ (by omega) (by omega) (fun v9 X9 hP => ?_) (fun _ _ h => absurd h.1 (by simp))
        obtain ⟨h1, a2, rfl, g3, g4⟩ := hP
        cases h1
        have f2 := f1.trans g4
        refine xr_aload_n C d_Mo_row_76 77 rfl rfl ?_
        refine xr_aload_n C d_Mo_row_77 78 rfl rfl ?_
        refine xr_get C K_Mo 4 d_Mo_row_78 81 rfl q_944 (Or.inl rfl) rfl (mX_o hA) rfl ?_
        refine xr_iload_n C d_Mo_row_81 82 rfl rfl ?_
        refine xr_iald (j := (16 * i + c)) C d_Mo_row_82 83 rfl (mX_4 hA) rfl (by omega) (by omega) ?_
        refine xr_toi (show _ = x.2.2.1 from (hsl1.fr f2 (by decide)).2.2.1) ?_
        refine xr_iconst (v := 4) C d_Mo_row_83 84 rfl (by decide) ?_
        refine xr_callV C (c_Mo_addNumber hA (v := x.2.2.1) (n := 4) g3 (by simp only [List.length_append, num_len]; omega) (by omega)) k_Mo_addNumber d_Mo_row_84 87 rfl (mX_o hA) rfl (Or.inl q_1135) v_Mo_addNumber e_Mo_addNumber h_Mo_addNumber rfl ⟨Nat.le_of_ble_eq_true rfl, Nat.le_of_ble_eq_true rfl, Nat.le_of_ble_eq_true rfl⟩ (by omega) (by omega) (fun v9 X9 hP => ?_) (fun _ _ h => absurd h.1 (by simp))
        obtain ⟨h1, a3, rfl, g5, g6⟩ := hP
        cases h1
        have f3 := f2.trans g6
        refine xr_aload_n C d_Mo_row_87 88 rfl rfl ?_
        refine xr_aload_n C d_Mo_row_88 89 rfl rfl ?_
        refine xr_get C K_Mo 5 d_Mo_row_89 92 rfl q_945 (Or.inl rfl) rfl (mX_o hA) rfl ?_
        refine xr_iload_n C d_Mo_row_92 93 rfl rfl ?_
        refine xr_iald (j := (16 * i + c)) C d_Mo_row_93 94 rfl (mX_5 hA) rfl (by omega) (by omega) ?_
        refine xr_toi (show _ = x.2.2.2.1 from (hsl1.fr f3 (by decide)).2.2.2.1) ?_
        refine xr_iconst (v := 4) C d_Mo_row_94 95 rfl (by decide) ?_
        refine xr_callV C (c_Mo_addNumber hA (v := x.2.2.2.1) (n := 4) g5 (by simp only [List.length_append, num_len]; omega) (by omega)) k_Mo_addNumber d_Mo_row_95 98 rfl (mX_o hA) rfl (Or.inl q_1135) v_Mo_addNumber e_Mo_addNumber h_Mo_addNumber rfl ⟨Nat.le_of_ble_eq_true rfl, Nat.le_of_ble_eq_true rfl, Nat.le_of_ble_eq_true rfl⟩ (by omega) (by omega) (fun v9 X9 hP => ?_) (fun _ _ h => absurd h.1 (by simp))
        obtain ⟨h1, a4, rfl, g7, g8⟩ := hP
        cases h1
        have f4 := f3.trans g8
        refine xr_aload_n C d_Mo_row_98 99 rfl rfl ?_
        refine xr_aload_n C d_Mo_row_99 100 rfl rfl ?_
        refine xr_get C K_Mo 6 d_Mo_row_100 103 rfl q_946 (Or.inl rfl) rfl (mX_o hA) rfl ?_
        refine xr_iload_n C d_Mo_row_103 104 rfl rfl ?_
        refine xr_iald (j := (16 * i + c)) C d_Mo_row_104 105 rfl (mX_6 hA) rfl (by omega) (by omega) ?_
        refine xr_toi (show _ = nI x.2.2.2.2.length from (hsl1.fr f4 (by decide)).2.2.2.2.1) ?_
        refine xr_iconst (v := 2) C d_Mo_row_105 106 rfl (by decide) ?_
        refine xr_callV C (c_Mo_addNumber hA (v := nI x.2.2.2.2.length) (n := 2) g7 (by simp only [List.length_append, num_len]; omega) (by omega)) k_Mo_addNumber d_Mo_row_106 109 rfl (mX_o hA) rfl (Or.inl q_1135) v_Mo_addNumber e_Mo_addNumber h_Mo_addNumber rfl ⟨Nat.le_of_ble_eq_true rfl, Nat.le_of_ble_eq_true rfl, Nat.le_of_ble_eq_true rfl⟩ (by omega) (by omega) (fun v9 X9 hP => ?_) (fun _ _ h => absurd h.1 (by simp))
        obtain ⟨h1, a5, rfl, g9, g10⟩ := hP
        cases h1
        have f5 := f4.trans g10
        have loopA : ∀ (r2 b : Nat) (u : MS), b + r2 = x.2.2.2.2.length → mFr [21, 22] z1 u → rR u (B ++ num x.1 4 ++ num x.2.1 4 ++ num x.2.2.1 4 ++ num x.2.2.2.1 4 ++ num (nI x.2.2.2.2.length) 2 ++ x.2.2.2.2.take b) → xG E (mX E.D X0 A u) 0 0 111 [some (.ref (A 0)), some (.int (nI i)), some (.int (nI (16 * i + c))), some (.int (nI b))] [] := by
          intro r2
          induction r2 with
          | zero =>
            intro b u hb u1 u2
            have hsu := hsl1.fr u1 (by decide)
            refine xr_iload_n C d_Mo_row_111 112 rfl rfl ?_
            refine xr_aload_n C d_Mo_row_112 113 rfl rfl ?_
            refine xr_get C K_Mo 6 d_Mo_row_113 116 rfl q_946 (Or.inl rfl) rfl (mX_o hA) rfl ?_
            refine xr_iload_n C d_Mo_row_116 117 rfl rfl ?_
            refine xr_iald (j := (16 * i + c)) C d_Mo_row_117 118 rfl (mX_6 hA) rfl (by omega) (by omega) ?_
            refine xr_toi (show _ = nI x.2.2.2.2.length from hsu.2.2.2.2.1) ?_
            refine xr_icmp_ge C d_Mo_row_118 121 142 rfl (by decide) (fun _ => ?_) (fun h => absurd (nI_le (show x.2.2.2.2.length ≤ b by omega) (by omega)) h)
            refine xr_iinc (v := 1) C d_Mo_row_142 145 rfl rfl rfl rfl (by decide) ?_
            refine xr_goto C d_Mo_row_145 39 (by decide) ?_
            rw [List.take_of_length_le (show x.2.2.2.2.length ≤ b by omega)] at u2
            refine xG.eqL (show _ = [some (Value.ref (A 0)), some (Value.int (nI i)), some (Value.int (nI (16 * i + (c + 1)))), some (Value.int (nI b))] by rw [show 16 * i + (c + 1) = 16 * i + c + 1 by omega, ← nI_one (16 * i + c)]; rfl) ?_
            refine ih (c + 1) u _ (by omega) u1 ?_
            rw [telS_take c1, ← List.append_assoc, ← hB, ← hxx]
            unfold tellS
            simpa only [List.append_assoc] using u2
          | succ r2 ih2 =>
            intro b u hb u1 u2
            have hsu := hsl1.fr u1 (by decide)
            have b1 : b < x.2.2.2.2.length := by omega
            refine xr_iload_n C d_Mo_row_111 112 rfl rfl ?_
            refine xr_aload_n C d_Mo_row_112 113 rfl rfl ?_
            refine xr_get C K_Mo 6 d_Mo_row_113 116 rfl q_946 (Or.inl rfl) rfl (mX_o hA) rfl ?_
            refine xr_iload_n C d_Mo_row_116 117 rfl rfl ?_
            refine xr_iald (j := (16 * i + c)) C d_Mo_row_117 118 rfl (mX_6 hA) rfl (by omega) (by omega) ?_
            refine xr_toi (show _ = nI x.2.2.2.2.length from hsu.2.2.2.2.1) ?_
            refine xr_icmp_ge C d_Mo_row_118 121 142 rfl (by decide) (fun h => absurd h (nI_ge b1 (by omega))) (fun _ => ?_)
            refine xr_aload_n C d_Mo_row_121 122 rfl rfl ?_
            refine xr_aload_n C d_Mo_row_122 123 rfl rfl ?_
            refine xr_get C K_Mo 7 d_Mo_row_123 126 rfl q_947 (Or.inl rfl) rfl (mX_o hA) rfl ?_
            refine xr_bipush (v := 104) C d_Mo_row_126 128 rfl (by decide) ?_
            refine xr_iload_n C d_Mo_row_128 129 rfl rfl ?_
            refine xr_imul C d_Mo_row_129 130 rfl ?_
            refine xr_toi (show _ = nI (104 * (16 * i + c)) from pk_mul 104 (16 * i + c)) ?_
            refine xr_iload_n C d_Mo_row_130 131 rfl rfl ?_
            refine xr_iadd C d_Mo_row_131 132 rfl ?_
            refine xr_toi (show _ = nI ((104 * (16 * i + c)) + b) from nI_add (104 * (16 * i + c)) b) ?_
            refine xr_iald (j := ((104 * (16 * i + c)) + b)) C d_Mo_row_132 133 rfl (mX_7 hA) rfl (by omega) (by omega) ?_
            refine xr_toi (show _ = u8 (x.2.2.2.2.getD b 0) from hsu.2.2.2.2.2 b b1) ?_
            refine xr_callV C (c_Mo_add hA (b := x.2.2.2.2.getD b 0) u2 (by simp only [List.length_append, num_len, List.length_take]; omega) (by rw [u8u8, u8_ub])) k_Mo_add d_Mo_row_133 136 rfl (mX_o hA) rfl (Or.inl q_1059) v_Mo_add e_Mo_add h_Mo_add rfl ⟨Nat.le_of_ble_eq_true rfl, Nat.le_of_ble_eq_true rfl, Nat.le_of_ble_eq_true rfl⟩ (by omega) (by omega) (fun v9 X9 hP => ?_) (fun _ _ h => absurd h.1 (by simp))
            obtain ⟨h1, u9, rfl, h3, h4⟩ := hP
            cases h1
            refine xr_iinc (v := 1) C d_Mo_row_136 139 rfl rfl rfl rfl (by decide) ?_
            refine xr_goto C d_Mo_row_139 111 (by decide) ?_
            refine xG.eqL (show _ = [some (Value.ref (A 0)), some (Value.int (nI i)), some (Value.int (nI (16 * i + c))), some (Value.int (nI (b + 1)))] by rw [← nI_one b]; rfl) ?_
            refine ih2 (b + 1) u9 (by omega) (u1.trans h4) ?_
            rw [takeg 0 b1, ← List.append_assoc]
            exact h3
        have goA : xG E (mX E.D X0 A a5) 0 0 111 [some (.ref (A 0)), some (.int (nI i)), some (.int (nI (16 * i + c))), some (.int (nI 0))] [] := loopA x.2.2.2.2.length 0 a5 (by omega) f5 (by rw [List.take_zero, List.append_nil]; exact g9)
        refine xr_iconst (v := 0) C d_Mo_row_109 110 rfl (by decide) ?_
        refine xr_istore_n C d_Mo_row_110 111 rfl rfl rfl ?_
        exact goA
    refine xr_aload_n C d_Mo_row_23 24 rfl rfl ?_
    refine xr_aload_n C d_Mo_row_24 25 rfl rfl ?_
    refine xr_get C K_Mo 1 d_Mo_row_25 28 rfl q_941 (Or.inl rfl) rfl (mX_o hA) rfl ?_
    refine xr_iload_n C d_Mo_row_28 29 rfl rfl ?_
    refine xr_iald (j := i) C d_Mo_row_29 30 rfl (mX_1 hA) rfl (by omega) (by omega) ?_
    refine xr_toi (show _ = nI ((S.2.1 i).1.length) from hS1.1) ?_
    refine xr_iconst (v := 4) C d_Mo_row_30 31 rfl (by decide) ?_
    refine xr_callV C (c_Mo_addNumber hA (v := nI (S.2.1 i).1.length) (n := 4) hr1 (by rw [List.length_nil]; omega) (by omega)) k_Mo_addNumber d_Mo_row_31 34 rfl (mX_o hA) rfl (Or.inl q_1135) v_Mo_addNumber e_Mo_addNumber h_Mo_addNumber rfl ⟨Nat.le_of_ble_eq_true rfl, Nat.le_of_ble_eq_true rfl, Nat.le_of_ble_eq_true rfl⟩ (by omega) (by omega) (fun v9 X9 hP => ?_) (fun _ _ h => absurd h.1 (by simp))
    obtain ⟨h1, b1, rfl, g1, g2⟩ := hP
    cases h1
    refine xr_bipush (v := 16) C d_Mo_row_34 36 rfl (by decide) ?_
    refine xr_iload_n C d_Mo_row_36 37 rfl rfl ?_
    refine xr_imul C d_Mo_row_37 38 rfl ?_
    refine xr_toi (show _ = nI (16 * i) from pk_mul 16 i) ?_
    refine xr_istore_n C d_Mo_row_38 39 rfl rfl rfl ?_
    exact loopS (S.2.1 i).1.length 0 b1 none (by omega) g2 (by rw [List.take_zero, show telS [] = [] from rfl, List.append_nil]; exact g1)
