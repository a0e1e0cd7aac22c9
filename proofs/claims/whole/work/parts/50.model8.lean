set_option maxRecDepth 100000 in
set_option maxHeartbeats 4000000 in
theorem d_Mo_open {l : Launch} {D : va_G} {H0 : Heap} {X0 : xH} {A : Nat → Nat} {s : MS} (hA : mInj A) {S : St} (hR : mRel s S) (hW : wf S) (hV : inv2 S) {z p : Int32} : xMet l D H0 y_Mo_open b_Mo_open 5 (some .int) [] 1 0 0 [.ref (A 0), .int z, .int p] (mX D X0 A s) (fun o X' => ∃ v : Int32, o = .inl (some (.int v)) ∧ ∃ s', X' = mX D X0 A s' ∧ s'.1 0 = nI (fOpen S z p).1 ∧ ((fOpen S z p).1 = 0 → v = (fOpen S z p).2.1) ∧ mRel s' (fOpen S z p).2.2) := by
  refine ⟨[some (.ref (A 0)), some (.int z), some (.int p), none, none], rfl, Nat.le_of_ble_eq_true rfl, fun E hD hH hl _ C => ?_⟩
  subst hD
  subst hH
  subst hl
  refine xr_aload_n C d_Mo_open_0 1 rfl rfl ?_
  refine xr_iconst (v := 0) C d_Mo_open_1 2 rfl (by decide) ?_
  refine xr_put C K_Mo 0 d_Mo_open_2 5 rfl q_940 (Or.inl rfl) rfl rfl rfl rfl (mX_o hA) rfl rfl ?_
  obtain ⟨z0, hz0⟩ : ∃ zz9, zz9 = setS s 0 (nI 0) := ⟨_, rfl⟩
  refine xG.eqX (show _ = mX E.D X0 A z0 from (mX_f0 (v := (nI 0)) hA).trans (by rw [hz0])) ?_
  have hR0 : mRel z0 S := by rw [hz0]; exact mRel_f hR
  have ht0 : z0.1 0 = 0 := by rw [hz0]; rfl
  refine xr_iload_n C d_Mo_open_5 6 rfl rfl ?_
  refine xr_callS C (c_Mo_isMachine) k_Mo_isMachine d_Mo_open_6 9 rfl (Or.inl q_1032) s_Mo_isMachine in_Mo_isMachine h_Mo_isMachine rfl ⟨Nat.le_of_ble_eq_true rfl, Nat.le_of_ble_eq_true rfl, Nat.le_of_ble_eq_true rfl⟩ (by omega) (by omega) (fun v9 X9 hP => ?_) (fun _ _ h => absurd h.1 (by simp))
  obtain ⟨h1, rfl⟩ := hP
  cases h1
  rcases mach_ix z with hz | ⟨i, hi, rfl⟩
  · have hf : fOpen S z p = (1, 0, S) := if_neg (notM hz)
    rw [hf] at C
    refine xr_toi (if_neg (notM hz)) ?_
    refine xr_if_ne C d_Mo_open_9 12 18 rfl (by decide) (fun h => absurd rfl h) (fun _ => ?_)
    refine xr_aload_n C d_Mo_open_12 13 rfl rfl ?_
    refine xr_iconst (v := 1) C d_Mo_open_13 14 rfl (by decide) ?_
    refine xr_callV C (c_Mo_fail hA) k_Mo_fail d_Mo_open_14 17 rfl (mX_o hA) rfl (Or.inl q_1023) v_Mo_fail e_Mo_fail h_Mo_fail rfl ⟨Nat.le_of_ble_eq_true rfl, Nat.le_of_ble_eq_true rfl, Nat.le_of_ble_eq_true rfl⟩ (by omega) (by omega) (fun v9 X9 hP => ?_) (fun _ _ h => absurd h.1 (by simp))
    obtain ⟨h1, rfl⟩ := hP
    cases h1
    exact xr_iret C d_Mo_open_17 (by omega) (by omega) ⟨_, rfl, _, rfl, rfl, fun h => absurd h (show ¬ (1 : Nat) = 0 by decide), mRel_f hR0⟩
  · obtain ⟨hs1, hs2, hs3⟩ := hR0.2.2.1 i hi
    obtain ⟨w1, w2, w3, w4⟩ := hW.2 i hi
    have w1l := w1.1
    have w2l := w2.1
    have hfm : fOpen S (nI i) p = if (S.2.1 i).2.2 < p ∧ p ≤ 1000000 then (0, nI (opS (S.2.1 i).1 p).length, (S.1, upM S.2.1 i (opS (S.2.1 i).1 p, (S.2.1 i).2.1, p), S.2.2.1, p)) else (2, 0, S) := by
      unfold fOpen
      rw [if_pos (isM_of hi), mIx_nI (by omega)]
    refine xr_toi (if_pos (isM_of hi)) ?_
    refine xr_if_ne C d_Mo_open_9 12 18 rfl (by decide) (fun _ => ?_) (fun h => absurd h (by decide))
    refine xr_aload_n C d_Mo_open_18 19 rfl rfl ?_
    refine xr_iload_n C d_Mo_open_19 20 rfl rfl ?_
    refine xr_iload_n C d_Mo_open_20 21 rfl rfl ?_
    refine xr_callV C (c_Mo_isNext hA hi) k_Mo_isNext d_Mo_open_21 24 rfl (mX_o hA) rfl (Or.inl q_1035) v_Mo_isNext e_Mo_isNext h_Mo_isNext rfl ⟨Nat.le_of_ble_eq_true rfl, Nat.le_of_ble_eq_true rfl, Nat.le_of_ble_eq_true rfl⟩ (by omega) (by omega) (fun v9 X9 hP => ?_) (fun _ _ h => absurd h.1 (by simp))
    obtain ⟨h1, rfl⟩ := hP
    cases h1
    rw [hs3]
    by_cases hp : (S.2.1 i).2.2 < p ∧ p ≤ 1000000
    rotate_left
    · rw [hfm, if_neg hp] at C
      refine xr_toi (if_neg hp) ?_
      refine xr_if_ne C d_Mo_open_24 27 33 rfl (by decide) (fun h => absurd rfl h) (fun _ => ?_)
      refine xr_aload_n C d_Mo_open_27 28 rfl rfl ?_
      refine xr_iconst (v := 2) C d_Mo_open_28 29 rfl (by decide) ?_
      refine xr_callV C (c_Mo_fail hA) k_Mo_fail d_Mo_open_29 32 rfl (mX_o hA) rfl (Or.inl q_1023) v_Mo_fail e_Mo_fail h_Mo_fail rfl ⟨Nat.le_of_ble_eq_true rfl, Nat.le_of_ble_eq_true rfl, Nat.le_of_ble_eq_true rfl⟩ (by omega) (by omega) (fun v9 X9 hP => ?_) (fun _ _ h => absurd h.1 (by simp))
      obtain ⟨h1, rfl⟩ := hP
      cases h1
      exact xr_iret C d_Mo_open_32 (by omega) (by omega) ⟨_, rfl, _, rfl, rfl, fun h => absurd h (show ¬ (2 : Nat) = 0 by decide), mRel_f hR0⟩
    rw [hfm, if_pos hp] at C
    refine xr_toi (if_pos hp) ?_
    refine xr_if_ne C d_Mo_open_24 27 33 rfl (by decide) (fun _ => ?_) (fun h => absurd h (by decide))
    refine xr_aload_n C d_Mo_open_33 34 rfl rfl ?_
    refine xr_get C K_Mo 13 d_Mo_open_34 37 rfl q_953 (Or.inl rfl) rfl (mX_o hA) rfl ?_
    refine xr_iload_n C d_Mo_open_37 38 rfl rfl ?_
    refine xr_iload_n C d_Mo_open_38 39 rfl rfl ?_
    refine xr_iast (j := i) C d_Mo_open_39 40 rfl (mX_13 hA) rfl (by omega) (by omega) ?_
    obtain ⟨z1, hz1⟩ : ∃ zz9, zz9 = setI z0 13 i (p) := ⟨_, rfl⟩
    refine xG.eqX (show _ = mX E.D X0 A z1 from (mX_s13 (v := (p)) hA).trans (by rw [hz1])) ?_
    have hf1 : mFr [1, 2, 3, 4, 5, 6, 7, 13] z0 z1 := by rw [hz1]; exact mFr_I (by decide)
    have hS1 : rS z1 i (S.2.1 i).1 := hs1.fr (a := [13]) (by rw [hz1]; exact mFr_I (by decide)) (by decide)
    have ho1 : othS i z0 z1 := othS.fr (a := [13]) (by rw [hz1]; exact mFr_I (by decide)) (by decide)
    have h13 : z1.2.1 13 i = p := by rw [hz1, setI_I, if_pos ⟨rfl, rfl⟩]
    have h13o : ∀ q, q ≠ i → z1.2.1 13 q = z0.2.1 13 q := fun q hq => by rw [hz1, setI_I, if_neg (fun e => hq e.2)]
    clear hz1
    have t148 : ∀ (y : MS) (ss1 : List Ss) (x3 x4 : Option Value), mFr [1, 2, 3, 4, 5, 6, 7, 13] z0 y → y.2.1 13 = z1.2.1 13 → rS y i ss1 → ss1.length < 16 → othS i z0 y → opS (S.2.1 i).1 p = ss1 ++ [(p, p, 0, p, [])] → xG E (mX E.D X0 A y) 0 0 148 [some (.ref (A 0)), some (.int (nI i)), some (.int p), x3, x4] [] := by
      intro y ss1 x3 x4 q1 q2 q3 q4 q5 q6
      obtain ⟨n, hn⟩ : ∃ n, n = ss1.length := ⟨_, rfl⟩
      have q31 : y.2.1 1 i = nI n := by rw [hn]; exact q3.1
      refine xr_bipush (v := 16) C d_Mo_open_148 150 rfl (by decide) ?_
      refine xr_iload_n C d_Mo_open_150 151 rfl rfl ?_
      refine xr_imul C d_Mo_open_151 152 rfl ?_
      refine xr_toi (show _ = nI (16 * i) from pk_mul 16 i) ?_
      refine xr_aload_n C d_Mo_open_152 153 rfl rfl ?_
      refine xr_get C K_Mo 1 d_Mo_open_153 156 rfl q_941 (Or.inl rfl) rfl (mX_o hA) rfl ?_
      refine xr_iload_n C d_Mo_open_156 157 rfl rfl ?_
      refine xr_iald (j := i) C d_Mo_open_157 158 rfl (mX_1 hA) rfl (by omega) (by omega) ?_
      refine xr_toi (show _ = nI n from q31) ?_
      refine xr_iadd C d_Mo_open_158 159 rfl ?_
      refine xr_toi (show _ = nI ((16 * i) + n) from nI_add (16 * i) n) ?_
      refine xr_istore_n C d_Mo_open_159 160 rfl rfl rfl ?_
      refine xr_aload_n C d_Mo_open_160 161 rfl rfl ?_
      refine xr_get C K_Mo 1 d_Mo_open_161 164 rfl q_941 (Or.inl rfl) rfl (mX_o hA) rfl ?_
      refine xr_iload_n C d_Mo_open_164 165 rfl rfl ?_
      refine xr_dup2_11 C d_Mo_open_165 166 rfl rfl rfl ?_
      refine xr_iald (j := i) C d_Mo_open_166 167 rfl (mX_1 hA) rfl (by omega) (by omega) ?_
      refine xr_toi (show _ = nI n from q31) ?_
      refine xr_iconst (v := 1) C d_Mo_open_167 168 rfl (by decide) ?_
      refine xr_iadd C d_Mo_open_168 169 rfl ?_
      refine xr_toi (show _ = nI (n + 1) from nI_add n 1) ?_
      refine xr_iast (j := i) C d_Mo_open_169 170 rfl (mX_1 hA) rfl (by omega) (by omega) ?_
      obtain ⟨y1, hy1⟩ : ∃ zz9, zz9 = setI y 1 i (nI (n + 1)) := ⟨_, rfl⟩
      refine xG.eqX (show _ = mX E.D X0 A y1 from (mX_s1 (v := (nI (n + 1))) hA).trans (by rw [hy1])) ?_
      refine xr_aload_n C d_Mo_open_170 171 rfl rfl ?_
      refine xr_get C K_Mo 2 d_Mo_open_171 174 rfl q_942 (Or.inl rfl) rfl (mX_o hA) rfl ?_
      refine xr_iload_n C d_Mo_open_174 175 rfl rfl ?_
      refine xr_iload_n C d_Mo_open_175 176 rfl rfl ?_
      refine xr_iast (j := ((16 * i) + n)) C d_Mo_open_176 177 rfl (mX_2 hA) rfl (by omega) (by omega) ?_
      obtain ⟨y2, hy2⟩ : ∃ zz9, zz9 = setI y1 2 ((16 * i) + n) (p) := ⟨_, rfl⟩
      refine xG.eqX (show _ = mX E.D X0 A y2 from (mX_s2 (v := (p)) hA).trans (by rw [hy2])) ?_
      refine xr_aload_n C d_Mo_open_177 178 rfl rfl ?_
      refine xr_get C K_Mo 3 d_Mo_open_178 181 rfl q_943 (Or.inl rfl) rfl (mX_o hA) rfl ?_
      refine xr_iload_n C d_Mo_open_181 182 rfl rfl ?_
      refine xr_iload_n C d_Mo_open_182 183 rfl rfl ?_
      refine xr_iast (j := ((16 * i) + n)) C d_Mo_open_183 184 rfl (mX_3 hA) rfl (by omega) (by omega) ?_
      obtain ⟨y3, hy3⟩ : ∃ zz9, zz9 = setI y2 3 ((16 * i) + n) (p) := ⟨_, rfl⟩
      refine xG.eqX (show _ = mX E.D X0 A y3 from (mX_s3 (v := (p)) hA).trans (by rw [hy3])) ?_
      refine xr_aload_n C d_Mo_open_184 185 rfl rfl ?_
      refine xr_get C K_Mo 4 d_Mo_open_185 188 rfl q_944 (Or.inl rfl) rfl (mX_o hA) rfl ?_
      refine xr_iload_n C d_Mo_open_188 189 rfl rfl ?_
      refine xr_iconst (v := 0) C d_Mo_open_189 190 rfl (by decide) ?_
      refine xr_iast (j := ((16 * i) + n)) C d_Mo_open_190 191 rfl (mX_4 hA) rfl (by omega) (by omega) ?_
      obtain ⟨y4, hy4⟩ : ∃ zz9, zz9 = setI y3 4 ((16 * i) + n) (nI 0) := ⟨_, rfl⟩
      refine xG.eqX (show _ = mX E.D X0 A y4 from (mX_s4 (v := (nI 0)) hA).trans (by rw [hy4])) ?_
      refine xr_aload_n C d_Mo_open_191 192 rfl rfl ?_
      refine xr_get C K_Mo 5 d_Mo_open_192 195 rfl q_945 (Or.inl rfl) rfl (mX_o hA) rfl ?_
      refine xr_iload_n C d_Mo_open_195 196 rfl rfl ?_
      refine xr_iload_n C d_Mo_open_196 197 rfl rfl ?_
      refine xr_iast (j := ((16 * i) + n)) C d_Mo_open_197 198 rfl (mX_5 hA) rfl (by omega) (by omega) ?_
      obtain ⟨y5, hy5⟩ : ∃ zz9, zz9 = setI y4 5 ((16 * i) + n) (p) := ⟨_, rfl⟩
      refine xG.eqX (show _ = mX E.D X0 A y5 from (mX_s5 (v := (p)) hA).trans (by rw [hy5])) ?_
      refine xr_aload_n C d_Mo_open_198 199 rfl rfl ?_
      refine xr_get C K_Mo 6 d_Mo_open_199 202 rfl q_946 (Or.inl rfl) rfl (mX_o hA) rfl ?_
      refine xr_iload_n C d_Mo_open_202 203 rfl rfl ?_
      refine xr_iconst (v := 0) C d_Mo_open_203 204 rfl (by decide) ?_
      refine xr_iast (j := ((16 * i) + n)) C d_Mo_open_204 205 rfl (mX_6 hA) rfl (by omega) (by omega) ?_
      obtain ⟨y6, hy6⟩ : ∃ zz9, zz9 = setI y5 6 ((16 * i) + n) (nI 0) := ⟨_, rfl⟩
      refine xG.eqX (show _ = mX E.D X0 A y6 from (mX_s6 (v := (nI 0)) hA).trans (by rw [hy6])) ?_
      refine xr_aload_n C d_Mo_open_205 206 rfl rfl ?_
      refine xr_iload_n C d_Mo_open_206 207 rfl rfl ?_
      refine xr_put C K_Mo 20 d_Mo_open_207 210 rfl q_960 (Or.inl rfl) rfl rfl rfl rfl (mX_o hA) rfl rfl ?_
      obtain ⟨y7, hy7⟩ : ∃ zz9, zz9 = setS y6 20 (p) := ⟨_, rfl⟩
      refine xG.eqX (show _ = mX E.D X0 A y7 from (mX_f20 (v := (p)) hA).trans (by rw [hy7])) ?_
      have b1 : ∀ j, y7.2.1 1 j = if j = i then nI (n + 1) else y.2.1 1 j := by
        intro j
        simp [hy7, hy6, hy5, hy4, hy3, hy2, hy1, setI_I, setS]
      have b2 : ∀ j, y7.2.1 2 j = if j = 16 * i + n then p else y.2.1 2 j := by
        intro j
        simp [hy7, hy6, hy5, hy4, hy3, hy2, hy1, setI_I, setS]
      have b3 : ∀ j, y7.2.1 3 j = if j = 16 * i + n then p else y.2.1 3 j := by
        intro j
        simp [hy7, hy6, hy5, hy4, hy3, hy2, hy1, setI_I, setS]
      have b4 : ∀ j, y7.2.1 4 j = if j = 16 * i + n then 0 else y.2.1 4 j := by
        intro j
        have e0 : nI 0 = 0 := rfl
        simp [hy7, hy6, hy5, hy4, hy3, hy2, hy1, setI_I, setS, e0]
      have b5 : ∀ j, y7.2.1 5 j = if j = 16 * i + n then p else y.2.1 5 j := by
        intro j
        simp [hy7, hy6, hy5, hy4, hy3, hy2, hy1, setI_I, setS]
      have b6 : ∀ j, y7.2.1 6 j = if j = 16 * i + n then 0 else y.2.1 6 j := by
        intro j
        have e0 : nI 0 = 0 := rfl
        simp [hy7, hy6, hy5, hy4, hy3, hy2, hy1, setI_I, setS, e0]
      have b7 : ∀ j, y7.2.1 7 j = y.2.1 7 j := by
        intro j
        simp [hy7, hy6, hy5, hy4, hy3, hy2, hy1, setI_I, setS]
      have bf : mFr [1, 2, 3, 4, 5, 6, 20] y y7 := by
        rw [hy7, hy6, hy5, hy4, hy3, hy2, hy1]
        exact ((((((mFr_I (by decide)).trans (mFr_I (by decide))).trans (mFr_I (by decide))).trans (mFr_I (by decide))).trans (mFr_I (by decide))).trans (mFr_I (by decide))).trans (mFr_S (by decide))
      have bp : y7.1 20 = p := by rw [hy7]; rfl
      clear hy7 hy6 hy5 hy4 hy3 hy2 hy1
      refine xr_aload_n C d_Mo_open_210 211 rfl rfl ?_
      refine xr_get C K_Mo 1 d_Mo_open_211 214 rfl q_941 (Or.inl rfl) rfl (mX_o hA) rfl ?_
      refine xr_iload_n C d_Mo_open_214 215 rfl rfl ?_
      refine xr_iald (j := i) C d_Mo_open_215 216 rfl (mX_1 hA) rfl (by omega) (by omega) ?_
      refine xr_toi (show _ = nI (opS (S.2.1 i).1 p).length from (by rw [b1, if_pos rfl, q6, List.length_append, List.length_singleton, hn])) ?_
      have bg : mFr [1, 2, 3, 4, 5, 6, 7, 13, 20] z0 y7 := (q1.mono (by decide)).trans (bf.mono (by decide))
      have keep : ∀ q x, q ≠ 16 * i + n → sSlot y q x → sSlot y7 q x := by
        intro q x hq hx
        obtain ⟨a1, a2, a3, a4, a5, a6⟩ := hx
        exact ⟨by rw [b2, if_neg hq]; exact a1, by rw [b3, if_neg hq]; exact a2, by rw [b4, if_neg hq]; exact a3, by rw [b5, if_neg hq]; exact a4, by rw [b6, if_neg hq]; exact a5, fun k hk => by rw [b7]; exact a6 k hk⟩
      refine xr_iret C d_Mo_open_216 (by omega) (by omega) ⟨_, rfl, y7, rfl, by rw [(bg 0 (by decide)).1]; exact ht0, fun _ => rfl, by rw [(bg 14 (by decide)).1]; exact hR0.1, hR0.2.1.fr bg (by decide), fun q hq => ?_, hR0.2.2.2.1.fr bg (by decide), bp⟩
      by_cases e : q = i
      · subst e
        show rS y7 q (upM S.2.1 q _ q).1 ∧ rE y7 q (upM S.2.1 q _ q).2.1 ∧ _ = (upM S.2.1 q _ q).2.2
        rw [upM_self]
        refine ⟨?_, hs2.fr bg (by decide), by rw [(bf 13 (by decide)).2.1, q2]; exact h13⟩
        show rS y7 q (opS (S.2.1 q).1 p)
        rw [q6]
        refine ⟨by rw [b1, if_pos rfl, List.length_append, List.length_singleton, hn], fun k hk => ?_⟩
        rw [List.length_append, List.length_singleton] at hk
        unfold sD
        rw [getDg_snoc hk]
        by_cases hk2 : k < ss1.length
        · rw [if_pos hk2]
          exact keep _ _ (by omega) (q3.2 k hk2)
        · rw [if_neg hk2, show k = n by omega]
          exact ⟨by rw [b2, if_pos rfl], by rw [b3, if_pos rfl], by rw [b4, if_pos rfl], by rw [b5, if_pos rfl], by rw [b6, if_pos rfl]; rfl, fun j hj => absurd hj (Nat.not_lt_zero _)⟩
      · show rS y7 q (upM S.2.1 i _ q).1 ∧ rE y7 q (upM S.2.1 i _ q).2.1 ∧ _ = (upM S.2.1 i _ q).2.2
        rw [upM_ne e]
        obtain ⟨g1, g2, g3⟩ := hR0.2.2.1 q hq
        have hoq := (hW.2 q hq).1
        have g1y := q5 q _ hq e hoq g1
        have hoq1 := hoq.1
        exact ⟨⟨by rw [b1, if_neg e]; exact g1y.1, fun k hk => keep _ _ (by omega) (g1y.2 k hk)⟩, g2.fr bg (by decide), by rw [(bf 13 (by decide)).2.1, q2, h13o q e]; exact g3⟩
    refine xr_aload_n C d_Mo_open_40 41 rfl rfl ?_
    refine xr_get C K_Mo 1 d_Mo_open_41 44 rfl q_941 (Or.inl rfl) rfl (mX_o hA) rfl ?_
    refine xr_iload_n C d_Mo_open_44 45 rfl rfl ?_
    refine xr_iald (j := i) C d_Mo_open_45 46 rfl (mX_1 hA) rfl (by omega) (by omega) ?_
    refine xr_toi (show _ = nI ((S.2.1 i).1.length) from hS1.1) ?_
    refine xr_bipush (v := 16) C d_Mo_open_46 48 rfl (by decide) ?_
    refine xr_toi (show _ = nI 16 from rfl) ?_
    refine xr_icmp_ne C d_Mo_open_48 51 148 rfl (by decide) (fun h48 => ?_) (fun h48 => ?_)
    · have h16 : ¬ 16 ≤ (S.2.1 i).1.length := fun q => h48 (show nI _ = nI 16 by congr 1; omega)
      exact t148 z1 (S.2.1 i).1 _ _ hf1 rfl hS1 (by omega) ho1 (by unfold opS; rw [if_neg h16])
    have h16 : (S.2.1 i).1.length = 16 := (nI_eq (by omega) (by omega)).mp h48
    have hlu : lu (S.2.1 i).1 < (S.2.1 i).1.length := by
      have := luf_le (S.2.1 i).1 ((S.2.1 i).1.length - 1)
      unfold lu
      omega
    have hop : opS (S.2.1 i).1 p = (S.2.1 i).1.eraseIdx (lu (S.2.1 i).1) ++ [(p, p, 0, p, [])] := by unfold opS; rw [if_pos (by omega)]
    have hdel : ((S.2.1 i).1.eraseIdx (lu (S.2.1 i).1)).length = 15 := by rw [List.length_eraseIdx_of_lt hlu]; omega
    have loopC : ∀ (r c : Nat) (y : MS) (x3 : Int32), c + r = 15 → lu (S.2.1 i).1 ≤ c → mFr [1, 2, 3, 4, 5, 6, 7, 13] z0 y → y.2.1 13 = z1.2.1 13 → y.2.1 1 i = nI 15 → (∀ k, k < c → sSlot y (16 * i + k) (sD ((S.2.1 i).1.eraseIdx (lu (S.2.1 i).1)) k)) → (∀ k, c < k → k < 16 → sSlot y (16 * i + k) (sD (S.2.1 i).1 k)) → othS i z0 y → xG E (mX E.D X0 A y) 0 0 116 [some (.ref (A 0)), some (.int (nI i)), some (.int p), some (.int x3), some (.int (nI (16 * i + c)))] [] := by
      intro r
      induction r with
      | zero =>
        intro c y x3 hcr hjc q1 q2 q3 q4 q5 q6
        refine xr_iload C d_Mo_open_116 118 rfl rfl ?_
        refine xr_bipush (v := 16) C d_Mo_open_118 120 rfl (by decide) ?_
        refine xr_iload_n C d_Mo_open_120 121 rfl rfl ?_
        refine xr_imul C d_Mo_open_121 122 rfl ?_
        refine xr_toi (show _ = nI (16 * i) from pk_mul 16 i) ?_
        refine xr_aload_n C d_Mo_open_122 123 rfl rfl ?_
        refine xr_get C K_Mo 1 d_Mo_open_123 126 rfl q_941 (Or.inl rfl) rfl (mX_o hA) rfl ?_
        refine xr_iload_n C d_Mo_open_126 127 rfl rfl ?_
        refine xr_iald (j := i) C d_Mo_open_127 128 rfl (mX_1 hA) rfl (by omega) (by omega) ?_
        refine xr_toi (show _ = nI 15 from q3) ?_
        refine xr_iadd C d_Mo_open_128 129 rfl ?_
        refine xr_toi (show _ = nI ((16 * i) + 15) from nI_add (16 * i) 15) ?_
        refine xr_icmp_ge C d_Mo_open_129 132 148 rfl (by decide) (fun _ => ?_) (fun h => absurd (nI_le (show 16 * i + 15 ≤ 16 * i + c by omega) (by omega)) h)
        exact t148 y _ _ _ q1 q2 ⟨by rw [hdel]; exact q3, fun k hk => q4 k (by omega)⟩ (by omega) q6 hop
      | succ r ih =>
        intro c y x3 hcr hjc q1 q2 q3 q4 q5 q6
        refine xr_iload C d_Mo_open_116 118 rfl rfl ?_
        refine xr_bipush (v := 16) C d_Mo_open_118 120 rfl (by decide) ?_
        refine xr_iload_n C d_Mo_open_120 121 rfl rfl ?_
        refine xr_imul C d_Mo_open_121 122 rfl ?_
        refine xr_toi (show _ = nI (16 * i) from pk_mul 16 i) ?_
        refine xr_aload_n C d_Mo_open_122 123 rfl rfl ?_
        refine xr_get C K_Mo 1 d_Mo_open_123 126 rfl q_941 (Or.inl rfl) rfl (mX_o hA) rfl ?_
        refine xr_iload_n C d_Mo_open_126 127 rfl rfl ?_
        refine xr_iald (j := i) C d_Mo_open_127 128 rfl (mX_1 hA) rfl (by omega) (by omega) ?_
        refine xr_toi (show _ = nI 15 from q3) ?_
        refine xr_iadd C d_Mo_open_128 129 rfl ?_
        refine xr_toi (show _ = nI ((16 * i) + 15) from nI_add (16 * i) 15) ?_
        refine xr_icmp_ge C d_Mo_open_129 132 148 rfl (by decide) (fun h => absurd h (nI_ge (show 16 * i + c < 16 * i + 15 by omega) (by omega))) (fun _ => ?_)
        refine xr_aload_n C d_Mo_open_132 133 rfl rfl ?_
        refine xr_iload C d_Mo_open_133 135 rfl rfl ?_
        refine xr_iconst (v := 1) C d_Mo_open_135 136 rfl (by decide) ?_
        refine xr_iadd C d_Mo_open_136 137 rfl ?_
        refine xr_toi (show _ = nI ((16 * i + c) + 1) from nI_add (16 * i + c) 1) ?_
        refine xr_iload C d_Mo_open_137 139 rfl rfl ?_
        refine xr_callV C (c_Mo_copySession hA (f := 16 * i + c + 1) (t := 16 * i + c) (by omega) (by omega) (q5 (c + 1) (by omega) (by omega)) (w1.2 _ (sD_mem (by omega)))) k_Mo_copySession d_Mo_open_139 142 rfl (mX_o hA) rfl (Or.inl q_1040) v_Mo_copySession e_Mo_copySession h_Mo_copySession rfl ⟨Nat.le_of_ble_eq_true rfl, Nat.le_of_ble_eq_true rfl, Nat.le_of_ble_eq_true rfl⟩ (by omega) (by omega) (fun v9 X9 hP => ?_) (fun _ _ h => absurd h.1 (by simp))
        obtain ⟨h1, y9, rfl, x1, x2, x9⟩ := hP
        cases h1
        refine xr_iinc (v := 1) C d_Mo_open_142 145 rfl rfl rfl rfl (by decide) ?_
        refine xr_goto C d_Mo_open_145 116 (by decide) ?_
        refine xG.eqL (show _ = [some (Value.ref (A 0)), some (Value.int (nI i)), some (Value.int p), some (Value.int x3), some (Value.int (nI (16 * i + (c + 1))))] by rw [show 16 * i + (c + 1) = 16 * i + c + 1 by omega, ← nI_one (16 * i + c)]; rfl) ?_
        refine ih (c + 1) y9 x3 (by omega) (by omega) (q1.trans (x1.mono (by decide))) (by rw [(x1 13 (by decide)).2.1]; exact q2) (by rw [(x1 1 (by decide)).2.1]; exact q3) (fun k hk => ?_) (fun k hk hk2 => x2 _ _ (by omega) (w1.2 _ (sD_mem (by omega))) (q5 k (by omega) hk2)) (q6.trans (fun q ss q7 q8 q9 q10 => ⟨by rw [(x1 1 (by decide)).2.1]; exact q10.1, fun k hk => x2 _ _ (by have := q9.1; omega) (q9.2 _ (sD_mem hk)) (q10.2 k hk)⟩))
        by_cases e : k = c
        · subst e
          have e2 : sD ((S.2.1 i).1.eraseIdx (lu (S.2.1 i).1)) k = sD (S.2.1 i).1 (k + 1) := by
            unfold sD
            rw [getDg_erase, if_neg (by omega)]
          rw [e2]
          exact x9
        · have e2 : k < c := by omega
          refine x2 _ _ (by omega) ?_ (q4 k e2)
          exact w1.2 _ (List.mem_of_mem_eraseIdx (sD_mem (by omega)))
    have loopL : ∀ (r c : Nat), c + r = 16 → xG E (mX E.D X0 A z1) 0 0 62 [some (.ref (A 0)), some (.int (nI i)), some (.int p), some (.int (nI (16 * i + luf (S.2.1 i).1 (c - 1)))), some (.int (nI (16 * i + c)))] [] := by
      intro r
      induction r with
      | zero =>
        intro c hcr
        refine xr_iload C d_Mo_open_62 64 rfl rfl ?_
        refine xr_bipush (v := 16) C d_Mo_open_64 66 rfl (by decide) ?_
        refine xr_iload_n C d_Mo_open_66 67 rfl rfl ?_
        refine xr_imul C d_Mo_open_67 68 rfl ?_
        refine xr_toi (show _ = nI (16 * i) from pk_mul 16 i) ?_
        refine xr_bipush (v := 16) C d_Mo_open_68 70 rfl (by decide) ?_
        refine xr_iadd C d_Mo_open_70 71 rfl ?_
        refine xr_toi (show _ = nI ((16 * i) + 16) from nI_add (16 * i) 16) ?_
        refine xr_icmp_ge C d_Mo_open_71 74 103 rfl (by decide) (fun _ => ?_) (fun h => absurd (nI_le (show 16 * i + 16 ≤ 16 * i + c by omega) (by omega)) h)
        have hlc : luf (S.2.1 i).1 (c - 1) = lu (S.2.1 i).1 := by
          unfold lu
          congr 1
          omega
        rw [hlc]
        refine xr_aload_n C d_Mo_open_103 104 rfl rfl ?_
        refine xr_get C K_Mo 1 d_Mo_open_104 107 rfl q_941 (Or.inl rfl) rfl (mX_o hA) rfl ?_
        refine xr_iload_n C d_Mo_open_107 108 rfl rfl ?_
        refine xr_dup2_11 C d_Mo_open_108 109 rfl rfl rfl ?_
        refine xr_iald (j := i) C d_Mo_open_109 110 rfl (mX_1 hA) rfl (by omega) (by omega) ?_
        refine xr_toi (show _ = nI 16 from (by rw [← h16]; exact hS1.1)) ?_
        refine xr_iconst (v := 1) C d_Mo_open_110 111 rfl (by decide) ?_
        refine xr_isub C d_Mo_open_111 112 rfl ?_
        refine xr_toi (show _ = nI 15 from (by decide)) ?_
        refine xr_iast (j := i) C d_Mo_open_112 113 rfl (mX_1 hA) rfl (by omega) (by omega) ?_
        obtain ⟨y, hy⟩ : ∃ zz9, zz9 = setI z1 1 i (nI 15) := ⟨_, rfl⟩
        refine xG.eqX (show _ = mX E.D X0 A y from (mX_s1 (v := (nI 15)) hA).trans (by rw [hy])) ?_
        refine xr_iload_n C d_Mo_open_113 114 rfl rfl ?_
        refine xr_istore C d_Mo_open_114 116 rfl rfl rfl ?_
        have hfy : mFr [1] z1 y := by rw [hy]; exact mFr_I (by decide)
        refine loopC (15 - lu (S.2.1 i).1) (lu (S.2.1 i).1) y _ (by omega) (Nat.le_refl _) (hf1.trans (hfy.mono (by decide))) (by rw [(hfy 13 (by decide)).2.1]) (by rw [hy, setI_I, if_pos ⟨rfl, rfl⟩]) (fun k hk => ?_) (fun k hk hk2 => (hS1.2 k (by omega)).fr hfy (by decide)) (ho1.trans (fun q ss q7 q8 q9 q10 => ⟨by rw [hy, setI_I, if_neg (fun e => q8 e.2)]; exact q10.1, fun k hk => (q10.2 k hk).fr hfy (by decide)⟩))
        have e2 : sD ((S.2.1 i).1.eraseIdx (lu (S.2.1 i).1)) k = sD (S.2.1 i).1 k := by
          unfold sD
          rw [getDg_erase, if_pos hk]
        rw [e2]
        exact (hS1.2 k (by omega)).fr hfy (by decide)
      | succ r ih =>
        intro c hcr
        have hll := luf_le (S.2.1 i).1 (c - 1)
        have t96 : ∀ v : Int32, v = nI (16 * i + luf (S.2.1 i).1 c) → xG E (mX E.D X0 A z1) 0 0 96 [some (.ref (A 0)), some (.int (nI i)), some (.int p), some (.int (nI (16 * i + luf (S.2.1 i).1 (c - 1)))), some (.int (nI (16 * i + c)))] [.int v] := by
          intro v hv
          rw [hv]
          refine xr_istore_n C d_Mo_open_96 97 rfl rfl rfl ?_
          refine xr_iinc (v := 1) C d_Mo_open_97 100 rfl rfl rfl rfl (by decide) ?_
          refine xr_goto C d_Mo_open_100 62 (by decide) ?_
          refine xG.eqL (show _ = [some (Value.ref (A 0)), some (Value.int (nI i)), some (Value.int p), some (Value.int (nI (16 * i + luf (S.2.1 i).1 (c + 1 - 1)))), some (Value.int (nI (16 * i + (c + 1))))] by rw [show 16 * i + (c + 1) = 16 * i + c + 1 by omega, ← nI_one (16 * i + c), show c + 1 - 1 = c by omega]; rfl) ?_
          exact ih (c + 1) (by omega)
        refine xr_iload C d_Mo_open_62 64 rfl rfl ?_
        refine xr_bipush (v := 16) C d_Mo_open_64 66 rfl (by decide) ?_
        refine xr_iload_n C d_Mo_open_66 67 rfl rfl ?_
        refine xr_imul C d_Mo_open_67 68 rfl ?_
        refine xr_toi (show _ = nI (16 * i) from pk_mul 16 i) ?_
        refine xr_bipush (v := 16) C d_Mo_open_68 70 rfl (by decide) ?_
        refine xr_iadd C d_Mo_open_70 71 rfl ?_
        refine xr_toi (show _ = nI ((16 * i) + 16) from nI_add (16 * i) 16) ?_
        refine xr_icmp_ge C d_Mo_open_71 74 103 rfl (by decide) (fun h => absurd h (nI_ge (show 16 * i + c < 16 * i + 16 by omega) (by omega))) (fun _ => ?_)
        refine xr_aload_n C d_Mo_open_74 75 rfl rfl ?_
        refine xr_get C K_Mo 3 d_Mo_open_75 78 rfl q_943 (Or.inl rfl) rfl (mX_o hA) rfl ?_
        refine xr_iload C d_Mo_open_78 80 rfl rfl ?_
        refine xr_iald (j := (16 * i + c)) C d_Mo_open_80 81 rfl (mX_3 hA) rfl (by omega) (by omega) ?_
        refine xr_toi (show _ = (sD (S.2.1 i).1 c).2.1 from (hS1.2 c (by omega)).2.1) ?_
        refine xr_aload_n C d_Mo_open_81 82 rfl rfl ?_
        refine xr_get C K_Mo 3 d_Mo_open_82 85 rfl q_943 (Or.inl rfl) rfl (mX_o hA) rfl ?_
        refine xr_iload_n C d_Mo_open_85 86 rfl rfl ?_
        refine xr_iald (j := (16 * i + luf (S.2.1 i).1 (c - 1))) C d_Mo_open_86 87 rfl (mX_3 hA) rfl (by omega) (by omega) ?_
        refine xr_toi (show _ = (sD (S.2.1 i).1 (luf (S.2.1 i).1 (c - 1))).2.1 from (hS1.2 _ (by omega)).2.1) ?_
        refine xr_icmp_ge C d_Mo_open_87 90 95 rfl (by decide) (fun h87 => ?_) (fun h87 => ?_)
        · refine xr_iload_n C d_Mo_open_95 96 rfl rfl ?_
          refine t96 _ ?_
          match c, hll with
          | 0, _ => rfl
          | c + 1, _ =>
            have h9 : (sD (S.2.1 i).1 (luf (S.2.1 i).1 c)).2.1 ≤ (sD (S.2.1 i).1 (c + 1)).2.1 := h87
            show _ = nI (16 * i + (if _ then _ else _))
            rw [if_neg (Int32.not_lt.mpr h9)]
            rfl
        · refine xr_iload C d_Mo_open_90 92 rfl rfl ?_
          refine xr_goto C d_Mo_open_92 96 (by decide) ?_
          refine t96 _ ?_
          match c, hll with
          | 0, _ => exact (Int32.lt_irrefl (Int32.not_le.mp h87)).elim
          | c + 1, _ =>
            have h9 : ¬ (sD (S.2.1 i).1 (luf (S.2.1 i).1 c)).2.1 ≤ (sD (S.2.1 i).1 (c + 1)).2.1 := h87
            show _ = nI (16 * i + (if _ then _ else _))
            rw [if_pos (Int32.not_le.mp h9)]
    refine xr_bipush (v := 16) C d_Mo_open_51 53 rfl (by decide) ?_
    refine xr_iload_n C d_Mo_open_53 54 rfl rfl ?_
    refine xr_imul C d_Mo_open_54 55 rfl ?_
    refine xr_toi (show _ = nI (16 * i) from pk_mul 16 i) ?_
    refine xr_istore_n C d_Mo_open_55 56 rfl rfl rfl ?_
    refine xr_bipush (v := 16) C d_Mo_open_56 58 rfl (by decide) ?_
    refine xr_iload_n C d_Mo_open_58 59 rfl rfl ?_
    refine xr_imul C d_Mo_open_59 60 rfl ?_
    refine xr_toi (show _ = nI (16 * i) from pk_mul 16 i) ?_
    refine xr_istore C d_Mo_open_60 62 rfl rfl rfl ?_
    refine xG.eqL (show _ = [some (Value.ref (A 0)), some (Value.int (nI i)), some (Value.int p), some (Value.int (nI (16 * i + luf (S.2.1 i).1 (0 - 1)))), some (Value.int (nI (16 * i + 0)))] from rfl) ?_
    exact loopL 16 0 (by omega)
