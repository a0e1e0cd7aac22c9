set_option maxRecDepth 100000 in
set_option maxHeartbeats 4000000 in
theorem d_Mo_make {l : Launch} {D : va_G} {H0 : Heap} {X0 : xH} {A : Nat → Nat} {s : MS} (hA : mInj A) {S : St} (hR : mRel s S) (hW : wf S) (hV : inv2 S) {z1 z2 : Int32} : xMet l D H0 y_Mo_make b_Mo_make 5 (some .boolean) [] 1 0 0 [.ref (A 0), .int z1, .int z2] (mX D X0 A s) (fun o X' => ∃ v : Int32, o = .inl (some (.int v)) ∧ ∃ s', X' = mX D X0 A s' ∧ s'.1 0 = nI (fMake S z1 z2).1 ∧ ((fMake S z1 z2).1 = 0 → v = (fMake S z1 z2).2.1) ∧ mRel s' (fMake S z1 z2).2.2) := by
  refine ⟨[some (.ref (A 0)), some (.int z1), some (.int z2), none, none], rfl, Nat.le_of_ble_eq_true rfl, fun E hD hH hl _ C => ?_⟩
  subst hD
  subst hH
  subst hl
  refine xr_aload_n C d_Mo_make_0 1 rfl rfl ?_
  refine xr_iconst (v := 0) C d_Mo_make_1 2 rfl (by decide) ?_
  refine xr_put C K_Mo 0 d_Mo_make_2 5 rfl q_940 (Or.inl rfl) rfl rfl rfl rfl (mX_o hA) rfl rfl ?_
  obtain ⟨z0, hz0⟩ : ∃ zz9, zz9 = setS s 0 (nI 0) := ⟨_, rfl⟩
  refine xG.eqX (show _ = mX E.D X0 A z0 from (mX_f0 (v := (nI 0)) hA).trans (by rw [hz0])) ?_
  have hR0 : mRel z0 S := by rw [hz0]; exact mRel_f hR
  have ht0 : z0.1 0 = 0 := by rw [hz0]; rfl
  have t19 : fMake S z1 z2 = (1, 0, S) → xG E (mX E.D X0 A z0) 0 0 19 [some (.ref (A 0)), some (.int z1), some (.int z2), none, none] [] := by
    intro h
    rw [h] at C
    refine xr_aload_n C d_Mo_make_19 20 rfl rfl ?_
    refine xr_iconst (v := 1) C d_Mo_make_20 21 rfl (by decide) ?_
    refine xr_callV C (c_Mo_fail hA) k_Mo_fail d_Mo_make_21 24 rfl (mX_o hA) rfl (Or.inl q_1023) v_Mo_fail e_Mo_fail h_Mo_fail rfl ⟨Nat.le_of_ble_eq_true rfl, Nat.le_of_ble_eq_true rfl, Nat.le_of_ble_eq_true rfl⟩ (by omega) (by omega) (fun v9 X9 hP => ?_) (fun _ _ h => absurd h.1 (by simp))
    obtain ⟨h1, rfl⟩ := hP
    cases h1
    refine xr_if_le C d_Mo_make_24 27 31 rfl (by decide) (fun _ => ?_) (fun h => absurd (show (0 : Int32) ≤ 0 by decide) h)
    refine xr_iconst (v := 0) C d_Mo_make_31 32 rfl (by decide) ?_
    exact xr_zret C d_Mo_make_32 rfl (by omega) (by omega) ⟨_, rfl, _, rfl, rfl, fun h => absurd h (show ¬ (1 : Nat) = 0 by decide), mRel_f hR0⟩
  refine xr_iload_n C d_Mo_make_5 6 rfl rfl ?_
  refine xr_callS C (c_Mo_isMachine) k_Mo_isMachine d_Mo_make_6 9 rfl (Or.inl q_1032) s_Mo_isMachine in_Mo_isMachine h_Mo_isMachine rfl ⟨Nat.le_of_ble_eq_true rfl, Nat.le_of_ble_eq_true rfl, Nat.le_of_ble_eq_true rfl⟩ (by omega) (by omega) (fun v9 X9 hP => ?_) (fun _ _ h => absurd h.1 (by simp))
  obtain ⟨h1, rfl⟩ := hP
  cases h1
  rcases mach_ix z1 with hz | ⟨j, hj, rfl⟩
  · refine xr_toi (if_neg (notM hz)) ?_
    refine xr_if_eq C d_Mo_make_9 12 19 rfl (by decide) (fun _ => t19 (if_neg (fun q => notM hz q.1))) (fun h => absurd rfl h)
  refine xr_toi (if_pos (isM_of hj)) ?_
  refine xr_if_eq C d_Mo_make_9 12 19 rfl (by decide) (fun h => absurd h (by decide)) (fun _ => ?_)
  refine xr_iload_n C d_Mo_make_12 13 rfl rfl ?_
  refine xr_callS C (c_Mo_isMachine) k_Mo_isMachine d_Mo_make_13 16 rfl (Or.inl q_1032) s_Mo_isMachine in_Mo_isMachine h_Mo_isMachine rfl ⟨Nat.le_of_ble_eq_true rfl, Nat.le_of_ble_eq_true rfl, Nat.le_of_ble_eq_true rfl⟩ (by omega) (by omega) (fun v9 X9 hP => ?_) (fun _ _ h => absurd h.1 (by simp))
  obtain ⟨h1, rfl⟩ := hP
  cases h1
  rcases mach_ix z2 with hz | ⟨i, hi, rfl⟩
  · refine xr_toi (if_neg (notM hz)) ?_
    refine xr_if_ne C d_Mo_make_16 19 33 rfl (by decide) (fun h => absurd rfl h) (fun _ => t19 (if_neg (fun q => notM hz q.2)))
  refine xr_toi (if_pos (isM_of hi)) ?_
  refine xr_if_ne C d_Mo_make_16 19 33 rfl (by decide) (fun _ => ?_) (fun h => absurd h (by decide))
  clear t19
  obtain ⟨hs1, hs2, hs3⟩ := hR0.2.2.1 i hi
  obtain ⟨w1, w2, w3, w4⟩ := hW.2 i hi
  obtain ⟨fs1, fs2, fs3⟩ := hR0.2.2.1 j hj
  obtain ⟨v1, v2, v3, v4⟩ := hW.2 j hj
  have w1l := w1.1
  have w2l := w2.1
  have v1l := v1.1
  have v2l := v2.1
  have hfm : fMake S (nI j) (nI i) = (0, if ((S.2.1 j).1 = (S.2.1 i).1 ∧ (S.2.1 j).2.1 = (S.2.1 i).2.1) then 0 else 1, (S.1, upM S.2.1 i ((S.2.1 j).1, (S.2.1 j).2.1, if (S.2.1 i).2.2 < (S.2.1 j).2.2 then (S.2.1 j).2.2 else (S.2.1 i).2.2), S.2.2.1, S.2.2.2)) := by
    unfold fMake
    rw [if_pos ⟨isM_of hj, isM_of hi⟩, mIx_nI (by omega), mIx_nI (by omega)]
  rw [hfm] at C
  /- the end: the greatest place, the answer -/
  have t259 : ∀ (y : MS) (c : Int32) (k : Int32), mFr [1, 2, 3, 4, 5, 6, 7, 8, 9, 10, 11, 12] z0 y → (c = 0 ∨ c = 1) → (c = 1 ↔ ((S.2.1 j).1 = (S.2.1 i).1 ∧ (S.2.1 j).2.1 = (S.2.1 i).2.1)) → rS y i (S.2.1 j).1 → rE y i (S.2.1 j).2.1 → (∀ q, q < 2 → q ≠ i → rS y q (S.2.1 q).1 ∧ rE y q (S.2.1 q).2.1) → xG E (mX E.D X0 A y) 0 0 259 [some (.ref (A 0)), some (.int (nI j)), some (.int (nI i)), some (.int c), some (.int k)] [] := by
    intro y c k y1 hc hc2 y2 y3 y4
    have h13 : y.2.1 13 = z0.2.1 13 := (y1 13 (by decide)).2.1
    have hi13 : y.2.1 13 i = (S.2.1 i).2.2 := by rw [h13]; exact hs3
    have hj13 : y.2.1 13 j = (S.2.1 j).2.2 := by rw [h13]; exact fs3
    have t294 : ∀ g : Int32, g = (if (S.2.1 i).2.2 < (S.2.1 j).2.2 then (S.2.1 j).2.2 else (S.2.1 i).2.2) → xG E (mX E.D X0 A y) 0 0 294 [some (.ref (A 0)), some (.int (nI j)), some (.int (nI i)), some (.int c), some (.int k)] [.int g, .int (nI i), .ref (A 13)] := by
      intro g hg
      refine xr_iast (j := i) C d_Mo_make_294 295 rfl (mX_13 hA) rfl (by omega) (by omega) ?_
      obtain ⟨u, hu⟩ : ∃ zz9, zz9 = setI y 13 i (g) := ⟨_, rfl⟩
      refine xG.eqX (show _ = mX E.D X0 A u from (mX_s13 (v := (g)) hA).trans (by rw [hu])) ?_
      refine xr_iload_n C d_Mo_make_295 296 rfl rfl ?_
      have hfu : mFr [13] y u := by rw [hu]; exact mFr_I (by decide)
      have hfA : mFr [1, 2, 3, 4, 5, 6, 7, 8, 9, 10, 11, 12, 13] z0 u := (y1.mono (by decide)).trans (hfu.mono (by decide))
      have hrel : mRel u (S.1, upM S.2.1 i ((S.2.1 j).1, (S.2.1 j).2.1, if (S.2.1 i).2.2 < (S.2.1 j).2.2 then (S.2.1 j).2.2 else (S.2.1 i).2.2), S.2.2.1, S.2.2.2) := by
        refine ⟨by rw [(hfA 14 (by decide)).1]; exact hR0.1, hR0.2.1.fr hfA (by decide), fun q hq => ?_, hR0.2.2.2.1.fr hfA (by decide), by rw [(hfA 20 (by decide)).1]; exact hR0.2.2.2.2⟩
        by_cases e : q = i
        · subst e
          show rS u q (upM S.2.1 q _ q).1 ∧ rE u q (upM S.2.1 q _ q).2.1 ∧ _ = (upM S.2.1 q _ q).2.2
          rw [upM_self]
          exact ⟨y2.fr hfu (by decide), y3.fr hfu (by decide), by rw [hu, setI_I, if_pos ⟨rfl, rfl⟩]; exact hg⟩
        · show rS u q (upM S.2.1 i _ q).1 ∧ rE u q (upM S.2.1 i _ q).2.1 ∧ _ = (upM S.2.1 i _ q).2.2
          rw [upM_ne e]
          exact ⟨(y4 q hq e).1.fr hfu (by decide), (y4 q hq e).2.fr hfu (by decide), by rw [hu, setI_I, if_neg (fun h => e h.2), h13]; exact (hR0.2.2.1 q hq).2.2⟩
      have ht : u.1 0 = 0 := by rw [(hfA 0 (by decide)).1]; exact ht0
      rcases hc with e | e
      · subst e
        have hns : ¬ ((S.2.1 j).1 = (S.2.1 i).1 ∧ (S.2.1 j).2.1 = (S.2.1 i).2.1) := fun q => absurd (hc2.mpr q) (by decide)
        refine xr_if_ne C d_Mo_make_296 299 303 rfl (by decide) (fun h => absurd rfl h) (fun _ => ?_)
        refine xr_iconst (v := 1) C d_Mo_make_299 300 rfl (by decide) ?_
        refine xr_goto C d_Mo_make_300 304 (by decide) ?_
        exact xr_zret C d_Mo_make_304 rfl (by omega) (by omega) ⟨1, rfl, u, rfl, ht, fun _ => (if_neg hns).symm, hrel⟩
      · subst e
        have hns := hc2.mp rfl
        refine xr_if_ne C d_Mo_make_296 299 303 rfl (by decide) (fun _ => ?_) (fun h => absurd h (by decide))
        refine xr_iconst (v := 0) C d_Mo_make_303 304 rfl (by decide) ?_
        exact xr_zret C d_Mo_make_304 rfl (by omega) (by omega) ⟨0, rfl, u, rfl, ht, fun _ => (if_pos hns).symm, hrel⟩
    refine xr_aload_n C d_Mo_make_259 260 rfl rfl ?_
    refine xr_get C K_Mo 13 d_Mo_make_260 263 rfl q_953 (Or.inl rfl) rfl (mX_o hA) rfl ?_
    refine xr_iload_n C d_Mo_make_263 264 rfl rfl ?_
    refine xr_aload_n C d_Mo_make_264 265 rfl rfl ?_
    refine xr_get C K_Mo 13 d_Mo_make_265 268 rfl q_953 (Or.inl rfl) rfl (mX_o hA) rfl ?_
    refine xr_iload_n C d_Mo_make_268 269 rfl rfl ?_
    refine xr_iald (j := i) C d_Mo_make_269 270 rfl (mX_13 hA) rfl (by omega) (by omega) ?_
    refine xr_toi (show _ = (S.2.1 i).2.2 from hi13) ?_
    refine xr_aload_n C d_Mo_make_270 271 rfl rfl ?_
    refine xr_get C K_Mo 13 d_Mo_make_271 274 rfl q_953 (Or.inl rfl) rfl (mX_o hA) rfl ?_
    refine xr_iload_n C d_Mo_make_274 275 rfl rfl ?_
    refine xr_iald (j := j) C d_Mo_make_275 276 rfl (mX_13 hA) rfl (by omega) (by omega) ?_
    refine xr_toi (show _ = (S.2.1 j).2.2 from hj13) ?_
    refine xr_icmp_le C d_Mo_make_276 279 288 rfl (by decide) (fun h276 => ?_) (fun h276 => ?_)
    · refine xr_aload_n C d_Mo_make_288 289 rfl rfl ?_
      refine xr_get C K_Mo 13 d_Mo_make_289 292 rfl q_953 (Or.inl rfl) rfl (mX_o hA) rfl ?_
      refine xr_iload_n C d_Mo_make_292 293 rfl rfl ?_
      refine xr_iald (j := j) C d_Mo_make_293 294 rfl (mX_13 hA) rfl (by omega) (by omega) ?_
      refine xr_toi (show _ = (S.2.1 j).2.2 from hj13) ?_
      refine t294 _ ?_
      by_cases hlt : (S.2.1 i).2.2 < (S.2.1 j).2.2
      · rw [if_pos hlt]
      · rw [if_neg hlt]
        exact Int32.le_antisymm (Int32.not_lt.mp hlt) h276
    · refine xr_aload_n C d_Mo_make_279 280 rfl rfl ?_
      refine xr_get C K_Mo 13 d_Mo_make_280 283 rfl q_953 (Or.inl rfl) rfl (mX_o hA) rfl ?_
      refine xr_iload_n C d_Mo_make_283 284 rfl rfl ?_
      refine xr_iald (j := i) C d_Mo_make_284 285 rfl (mX_13 hA) rfl (by omega) (by omega) ?_
      refine xr_toi (show _ = (S.2.1 i).2.2 from hi13) ?_
      refine xr_goto C d_Mo_make_285 294 (by decide) ?_
      refine t294 _ ?_
      rw [if_neg (fun h => h276 (Int32.le_of_lt h))]
  have loopKc : ∀ (r c : Nat) (b : Int32) (y : MS), c + r = (S.2.1 j).2.1.length → (b = 0 ∨ b = 1) → (b = 1 ↔ ((S.2.1 j).1 = (S.2.1 i).1 ∧ (S.2.1 j).2.1 = (S.2.1 i).2.1)) → mFr [1, 2, 3, 4, 5, 6, 7, 8, 9, 10, 11, 12] z0 y → rS y i (S.2.1 j).1 → y.2.1 8 i = nI (S.2.1 j).2.1.length → y.2.1 8 j = nI (S.2.1 j).2.1.length → (∀ k, k < (S.2.1 j).2.1.length → eSlot y (128 * j + k) (eD (S.2.1 j).2.1 k)) → (∀ k, k < c → eSlot y (128 * i + k) (eD (S.2.1 j).2.1 k)) → (∀ q, q < 2 → q ≠ i → rS y q (S.2.1 q).1 ∧ rE y q (S.2.1 q).2.1) → xG E (mX E.D X0 A y) 0 0 222 [some (.ref (A 0)), some (.int (nI j)), some (.int (nI i)), some (.int b), some (.int (nI c))] [] := by
    intro r
    induction r with
    | zero =>
      intro c b y hcr hb hb2 y1 y2 y3 y3j y4 y5 y6
      refine xr_iload C d_Mo_make_222 224 rfl rfl ?_
      refine xr_aload_n C d_Mo_make_224 225 rfl rfl ?_
      refine xr_get C K_Mo 8 d_Mo_make_225 228 rfl q_948 (Or.inl rfl) rfl (mX_o hA) rfl ?_
      refine xr_iload_n C d_Mo_make_228 229 rfl rfl ?_
      refine xr_iald (j := j) C d_Mo_make_229 230 rfl (mX_8 hA) rfl (by omega) (by omega) ?_
      refine xr_toi (show _ = nI ((S.2.1 j).2.1.length) from y3j) ?_
      refine xr_icmp_ge C d_Mo_make_230 233 259 rfl (by decide) (fun _ => t259 y b _ y1 hb hb2 y2 ⟨y3, fun k hk => y5 k (by omega)⟩ y6) (fun h => absurd (nI_le (show (S.2.1 j).2.1.length ≤ c by omega) (by omega)) h)
    | succ r ih =>
      intro c b y hcr hb hb2 y1 y2 y3 y3j y4 y5 y6
      have c1 : c < (S.2.1 j).2.1.length := by omega
      refine xr_iload C d_Mo_make_222 224 rfl rfl ?_
      refine xr_aload_n C d_Mo_make_224 225 rfl rfl ?_
      refine xr_get C K_Mo 8 d_Mo_make_225 228 rfl q_948 (Or.inl rfl) rfl (mX_o hA) rfl ?_
      refine xr_iload_n C d_Mo_make_228 229 rfl rfl ?_
      refine xr_iald (j := j) C d_Mo_make_229 230 rfl (mX_8 hA) rfl (by omega) (by omega) ?_
      refine xr_toi (show _ = nI ((S.2.1 j).2.1.length) from y3j) ?_
      refine xr_icmp_ge C d_Mo_make_230 233 259 rfl (by decide) (fun h => absurd h (nI_ge c1 (by omega))) (fun _ => ?_)
      refine xr_aload_n C d_Mo_make_233 234 rfl rfl ?_
      refine xr_sipush (v := 128) C d_Mo_make_234 237 rfl (by decide) ?_
      refine xr_iload_n C d_Mo_make_237 238 rfl rfl ?_
      refine xr_imul C d_Mo_make_238 239 rfl ?_
      refine xr_toi (show _ = nI (128 * j) from pk_mul 128 j) ?_
      refine xr_iload C d_Mo_make_239 241 rfl rfl ?_
      refine xr_iadd C d_Mo_make_241 242 rfl ?_
      refine xr_toi (show _ = nI ((128 * j) + c) from nI_add (128 * j) c) ?_
      refine xr_sipush (v := 128) C d_Mo_make_242 245 rfl (by decide) ?_
      refine xr_iload_n C d_Mo_make_245 246 rfl rfl ?_
      refine xr_imul C d_Mo_make_246 247 rfl ?_
      refine xr_toi (show _ = nI (128 * i) from pk_mul 128 i) ?_
      refine xr_iload C d_Mo_make_247 249 rfl rfl ?_
      refine xr_iadd C d_Mo_make_249 250 rfl ?_
      refine xr_toi (show _ = nI ((128 * i) + c) from nI_add (128 * i) c) ?_
      refine xr_callV C (c_Mo_copyKey hA (f := 128 * j + c) (t := 128 * i + c) (by omega) (by omega)) k_Mo_copyKey d_Mo_make_250 253 rfl (mX_o hA) rfl (Or.inl q_1107) v_Mo_copyKey e_Mo_copyKey h_Mo_copyKey rfl ⟨Nat.le_of_ble_eq_true rfl, Nat.le_of_ble_eq_true rfl, Nat.le_of_ble_eq_true rfl⟩ (by omega) (by omega) (fun v9 X9 hP => ?_) (fun _ _ h => absurd h.1 (by simp))
      obtain ⟨h1, u, rfl, x1, x2, x3⟩ := hP
      cases h1
      refine xr_iinc (v := 1) C d_Mo_make_253 256 rfl rfl rfl rfl (by decide) ?_
      refine xr_goto C d_Mo_make_256 222 (by decide) ?_
      refine xG.eqL (show _ = [some (Value.ref (A 0)), some (Value.int (nI j)), some (Value.int (nI i)), some (Value.int b), some (Value.int (nI (c + 1)))] by rw [← nI_one c]; rfl) ?_
      have x4 := x3 _ (y4 c c1)
      refine ih (c + 1) b u (by omega) hb hb2 (y1.trans (x1.mono (by decide))) (y2.fr x1 (by decide)) (by rw [(x1 8 (by decide)).2.1]; exact y3) (by rw [(x1 8 (by decide)).2.1]; exact y3j) (fun k hk => ?_) (fun k hk => ?_) (fun q hq hne => ⟨(y6 q hq hne).1.fr x1 (by decide), ⟨by rw [(x1 8 (by decide)).2.1]; exact (y6 q hq hne).2.1, fun k hk => x2 _ _ (by have := (hW.2 q hq).2.1.1; omega) ((y6 q hq hne).2.2 k hk)⟩⟩)
      · by_cases e : 128 * j + k = 128 * i + c
        · rw [e, show k = c by omega]
          exact x4
        · exact x2 _ _ e (y4 k hk)
      · by_cases e : k = c
        · rw [e]
          exact x4
        · exact x2 _ _ (by omega) (y5 k (by omega))
  have loopSc : ∀ (r c : Nat) (b : Int32) (y : MS), c + r = (S.2.1 j).1.length → (b = 0 ∨ b = 1) → (b = 1 ↔ ((S.2.1 j).1 = (S.2.1 i).1 ∧ (S.2.1 j).2.1 = (S.2.1 i).2.1)) → mFr [1, 2, 3, 4, 5, 6, 7, 8, 9, 10, 11, 12] z0 y → y.2.1 1 i = nI (S.2.1 j).1.length → y.2.1 1 j = nI (S.2.1 j).1.length → y.2.1 8 i = nI (S.2.1 j).2.1.length → y.2.1 8 j = nI (S.2.1 j).2.1.length → (∀ k, k < (S.2.1 j).1.length → sSlot y (16 * j + k) (sD (S.2.1 j).1 k)) → (∀ k, k < c → sSlot y (16 * i + k) (sD (S.2.1 j).1 k)) → (∀ k, k < (S.2.1 j).2.1.length → eSlot y (128 * j + k) (eD (S.2.1 j).2.1 k)) → (∀ q, q < 2 → q ≠ i → rS y q (S.2.1 q).1 ∧ rE y q (S.2.1 q).2.1) → xG E (mX E.D X0 A y) 0 0 184 [some (.ref (A 0)), some (.int (nI j)), some (.int (nI i)), some (.int b), some (.int (nI c))] [] := by
    intro r
    induction r with
    | zero =>
      intro c b y hcr hb hb2 y1 y2 y2j y3 y3j y4 y5 y7 y6
      refine xr_iload C d_Mo_make_184 186 rfl rfl ?_
      refine xr_aload_n C d_Mo_make_186 187 rfl rfl ?_
      refine xr_get C K_Mo 1 d_Mo_make_187 190 rfl q_941 (Or.inl rfl) rfl (mX_o hA) rfl ?_
      refine xr_iload_n C d_Mo_make_190 191 rfl rfl ?_
      refine xr_iald (j := j) C d_Mo_make_191 192 rfl (mX_1 hA) rfl (by omega) (by omega) ?_
      refine xr_toi (show _ = nI ((S.2.1 j).1.length) from y2j) ?_
      refine xr_icmp_ge C d_Mo_make_192 195 219 rfl (by decide) (fun _ => ?_) (fun h => absurd (nI_le (show (S.2.1 j).1.length ≤ c by omega) (by omega)) h)
      refine xr_iconst (v := 0) C d_Mo_make_219 220 rfl (by decide) ?_
      refine xr_istore C d_Mo_make_220 222 rfl rfl rfl ?_
      exact loopKc (S.2.1 j).2.1.length 0 b y (by omega) hb hb2 y1 ⟨y2, fun k hk => y5 k (by omega)⟩ y3 y3j y7 (fun k hk => absurd hk (Nat.not_lt_zero _)) y6
    | succ r ih =>
      intro c b y hcr hb hb2 y1 y2 y2j y3 y3j y4 y5 y7 y6
      have c1 : c < (S.2.1 j).1.length := by omega
      have hcl := v1.2 _ (sD_mem c1)
      refine xr_iload C d_Mo_make_184 186 rfl rfl ?_
      refine xr_aload_n C d_Mo_make_186 187 rfl rfl ?_
      refine xr_get C K_Mo 1 d_Mo_make_187 190 rfl q_941 (Or.inl rfl) rfl (mX_o hA) rfl ?_
      refine xr_iload_n C d_Mo_make_190 191 rfl rfl ?_
      refine xr_iald (j := j) C d_Mo_make_191 192 rfl (mX_1 hA) rfl (by omega) (by omega) ?_
      refine xr_toi (show _ = nI ((S.2.1 j).1.length) from y2j) ?_
      refine xr_icmp_ge C d_Mo_make_192 195 219 rfl (by decide) (fun h => absurd h (nI_ge c1 (by omega))) (fun _ => ?_)
      refine xr_aload_n C d_Mo_make_195 196 rfl rfl ?_
      refine xr_bipush (v := 16) C d_Mo_make_196 198 rfl (by decide) ?_
      refine xr_iload_n C d_Mo_make_198 199 rfl rfl ?_
      refine xr_imul C d_Mo_make_199 200 rfl ?_
      refine xr_toi (show _ = nI (16 * j) from pk_mul 16 j) ?_
      refine xr_iload C d_Mo_make_200 202 rfl rfl ?_
      refine xr_iadd C d_Mo_make_202 203 rfl ?_
      refine xr_toi (show _ = nI ((16 * j) + c) from nI_add (16 * j) c) ?_
      refine xr_bipush (v := 16) C d_Mo_make_203 205 rfl (by decide) ?_
      refine xr_iload_n C d_Mo_make_205 206 rfl rfl ?_
      refine xr_imul C d_Mo_make_206 207 rfl ?_
      refine xr_toi (show _ = nI (16 * i) from pk_mul 16 i) ?_
      refine xr_iload C d_Mo_make_207 209 rfl rfl ?_
      refine xr_iadd C d_Mo_make_209 210 rfl ?_
      refine xr_toi (show _ = nI ((16 * i) + c) from nI_add (16 * i) c) ?_
      refine xr_callV C (c_Mo_copySession hA (f := 16 * j + c) (t := 16 * i + c) (by omega) (by omega) (y4 c c1) hcl) k_Mo_copySession d_Mo_make_210 213 rfl (mX_o hA) rfl (Or.inl q_1040) v_Mo_copySession e_Mo_copySession h_Mo_copySession rfl ⟨Nat.le_of_ble_eq_true rfl, Nat.le_of_ble_eq_true rfl, Nat.le_of_ble_eq_true rfl⟩ (by omega) (by omega) (fun v9 X9 hP => ?_) (fun _ _ h => absurd h.1 (by simp))
      obtain ⟨h1, u, rfl, x1, x2, x4⟩ := hP
      cases h1
      refine xr_iinc (v := 1) C d_Mo_make_213 216 rfl rfl rfl rfl (by decide) ?_
      refine xr_goto C d_Mo_make_216 184 (by decide) ?_
      refine xG.eqL (show _ = [some (Value.ref (A 0)), some (Value.int (nI j)), some (Value.int (nI i)), some (Value.int b), some (Value.int (nI (c + 1)))] by rw [← nI_one c]; rfl) ?_
      refine ih (c + 1) b u (by omega) hb hb2 (y1.trans (x1.mono (by decide))) (by rw [(x1 1 (by decide)).2.1]; exact y2) (by rw [(x1 1 (by decide)).2.1]; exact y2j) (by rw [(x1 8 (by decide)).2.1]; exact y3) (by rw [(x1 8 (by decide)).2.1]; exact y3j) (fun k hk => ?_) (fun k hk => ?_) (fun k hk => (y7 k hk).fr x1 (by decide)) (fun q hq hne => ⟨⟨by rw [(x1 1 (by decide)).2.1]; exact (y6 q hq hne).1.1, fun k hk => x2 _ _ (by have := (hW.2 q hq).1.1; omega) ((hW.2 q hq).1.2 _ (sD_mem hk)) ((y6 q hq hne).1.2 k hk)⟩, (y6 q hq hne).2.fr x1 (by decide)⟩)
      · by_cases e : 16 * j + k = 16 * i + c
        · rw [e, show k = c by omega]
          exact x4
        · exact x2 _ _ e (v1.2 _ (sD_mem hk)) (y4 k hk)
      · by_cases e : k = c
        · rw [e]
          exact x4
        · exact x2 _ _ (by omega) (v1.2 _ (sD_mem (by omega))) (y5 k (by omega))
  have t157 : ∀ (b : Int32) (k : Int32), (b = 0 ∨ b = 1) → (b = 1 ↔ ((S.2.1 j).1 = (S.2.1 i).1 ∧ (S.2.1 j).2.1 = (S.2.1 i).2.1)) → xG E (mX E.D X0 A z0) 0 0 157 [some (.ref (A 0)), some (.int (nI j)), some (.int (nI i)), some (.int b), some (.int k)] [] := by
    intro b k hb hb2
    refine xr_aload_n C d_Mo_make_157 158 rfl rfl ?_
    refine xr_get C K_Mo 1 d_Mo_make_158 161 rfl q_941 (Or.inl rfl) rfl (mX_o hA) rfl ?_
    refine xr_iload_n C d_Mo_make_161 162 rfl rfl ?_
    refine xr_aload_n C d_Mo_make_162 163 rfl rfl ?_
    refine xr_get C K_Mo 1 d_Mo_make_163 166 rfl q_941 (Or.inl rfl) rfl (mX_o hA) rfl ?_
    refine xr_iload_n C d_Mo_make_166 167 rfl rfl ?_
    refine xr_iald (j := j) C d_Mo_make_167 168 rfl (mX_1 hA) rfl (by omega) (by omega) ?_
    refine xr_toi (show _ = nI (S.2.1 j).1.length from fs1.1) ?_
    refine xr_iast (j := i) C d_Mo_make_168 169 rfl (mX_1 hA) rfl (by omega) (by omega) ?_
    obtain ⟨u1, hu1⟩ : ∃ zz9, zz9 = setI z0 1 i (nI (S.2.1 j).1.length) := ⟨_, rfl⟩
    refine xG.eqX (show _ = mX E.D X0 A u1 from (mX_s1 (v := (nI (S.2.1 j).1.length)) hA).trans (by rw [hu1])) ?_
    refine xr_aload_n C d_Mo_make_169 170 rfl rfl ?_
    refine xr_get C K_Mo 8 d_Mo_make_170 173 rfl q_948 (Or.inl rfl) rfl (mX_o hA) rfl ?_
    refine xr_iload_n C d_Mo_make_173 174 rfl rfl ?_
    refine xr_aload_n C d_Mo_make_174 175 rfl rfl ?_
    refine xr_get C K_Mo 8 d_Mo_make_175 178 rfl q_948 (Or.inl rfl) rfl (mX_o hA) rfl ?_
    refine xr_iload_n C d_Mo_make_178 179 rfl rfl ?_
    refine xr_iald (j := j) C d_Mo_make_179 180 rfl (mX_8 hA) rfl (by omega) (by omega) ?_
    refine xr_toi (show _ = nI (S.2.1 j).2.1.length from (by rw [hu1, setI_o (by decide)]; exact fs2.1)) ?_
    refine xr_iast (j := i) C d_Mo_make_180 181 rfl (mX_8 hA) rfl (by omega) (by omega) ?_
    obtain ⟨u2, hu2⟩ : ∃ zz9, zz9 = setI u1 8 i (nI (S.2.1 j).2.1.length) := ⟨_, rfl⟩
    refine xG.eqX (show _ = mX E.D X0 A u2 from (mX_s8 (v := (nI (S.2.1 j).2.1.length)) hA).trans (by rw [hu2])) ?_
    refine xr_iconst (v := 0) C d_Mo_make_181 182 rfl (by decide) ?_
    refine xr_istore C d_Mo_make_182 184 rfl rfl rfl ?_
    have d1 : ∀ q, u2.2.1 1 q = if q = i then nI (S.2.1 j).1.length else z0.2.1 1 q := by
      intro q
      rw [hu2, setI_o (by decide), hu1, setI_I]
      by_cases e : q = i
      · rw [if_pos ⟨rfl, e⟩, if_pos e]
      · rw [if_neg (fun h => e h.2), if_neg e]
    have d8 : ∀ q, u2.2.1 8 q = if q = i then nI (S.2.1 j).2.1.length else z0.2.1 8 q := by
      intro q
      rw [hu2, setI_I]
      by_cases e : q = i
      · rw [if_pos ⟨rfl, e⟩, if_pos e]
      · rw [if_neg (fun h => e h.2), if_neg e, hu1, setI_o (by decide)]
    have hfu : mFr [1, 8] z0 u2 := by rw [hu2, hu1]; exact (mFr_I (by decide)).trans (mFr_I (by decide))
    clear hu2 hu1
    refine loopSc (S.2.1 j).1.length 0 b u2 (by omega) hb hb2 (hfu.mono (by decide)) (by rw [d1, if_pos rfl]) ?_ (by rw [d8, if_pos rfl]) ?_ (fun k hk => (fs1.2 k hk).fr hfu (by decide)) (fun k hk => absurd hk (Nat.not_lt_zero _)) (fun k hk => (fs2.2 k hk).fr hfu (by decide)) (fun q hq hne => ⟨⟨by rw [d1, if_neg hne]; exact (hR0.2.2.1 q hq).1.1, fun k hk => ((hR0.2.2.1 q hq).1.2 k hk).fr hfu (by decide)⟩, ⟨by rw [d8, if_neg hne]; exact (hR0.2.2.1 q hq).2.1.1, fun k hk => ((hR0.2.2.1 q hq).2.1.2 k hk).fr hfu (by decide)⟩⟩)
    · rw [d1]
      split
      · rfl
      · exact fs1.1
    · rw [d8]
      split
      · rfl
      · exact fs2.1
  have loopE : ∀ (r c : Nat) (b : Int32), c + r = (S.2.1 j).2.1.length → (b = 0 ∨ b = 1) → (b = 1 ↔ ((S.2.1 j).1 = (S.2.1 i).1 ∧ (S.2.1 j).2.1.length = (S.2.1 i).2.1.length) ∧ ∀ k, k < c → eD (S.2.1 j).2.1 k = eD (S.2.1 i).2.1 k) → xG E (mX E.D X0 A z0) 0 0 115 [some (.ref (A 0)), some (.int (nI j)), some (.int (nI i)), some (.int b), some (.int (nI c))] [] := by
    intro r
    induction r with
    | zero =>
      intro c b hcr hb hb2
      refine xr_iload C d_Mo_make_115 117 rfl rfl ?_
      refine xr_aload_n C d_Mo_make_117 118 rfl rfl ?_
      refine xr_get C K_Mo 8 d_Mo_make_118 121 rfl q_948 (Or.inl rfl) rfl (mX_o hA) rfl ?_
      refine xr_iload_n C d_Mo_make_121 122 rfl rfl ?_
      refine xr_iald (j := j) C d_Mo_make_122 123 rfl (mX_8 hA) rfl (by omega) (by omega) ?_
      refine xr_toi (show _ = nI ((S.2.1 j).2.1.length) from fs2.1) ?_
      refine xr_icmp_ge C d_Mo_make_123 126 157 rfl (by decide) (fun _ => t157 b _ hb (hb2.trans ⟨fun h => ⟨h.1.1, es_ext h.1.2 (fun k hk => h.2 k (by omega))⟩, fun h => ⟨⟨h.1, by rw [h.2]⟩, fun k _ => by rw [h.2]⟩⟩)) (fun h => absurd (nI_le (show (S.2.1 j).2.1.length ≤ c by omega) (by omega)) h)
    | succ r ih =>
      intro c b hcr hb hb2
      have c1 : c < (S.2.1 j).2.1.length := by omega
      refine xr_iload C d_Mo_make_115 117 rfl rfl ?_
      refine xr_aload_n C d_Mo_make_117 118 rfl rfl ?_
      refine xr_get C K_Mo 8 d_Mo_make_118 121 rfl q_948 (Or.inl rfl) rfl (mX_o hA) rfl ?_
      refine xr_iload_n C d_Mo_make_121 122 rfl rfl ?_
      refine xr_iald (j := j) C d_Mo_make_122 123 rfl (mX_8 hA) rfl (by omega) (by omega) ?_
      refine xr_toi (show _ = nI ((S.2.1 j).2.1.length) from fs2.1) ?_
      refine xr_icmp_ge C d_Mo_make_123 126 157 rfl (by decide) (fun h => absurd h (nI_ge c1 (by omega))) (fun _ => ?_)
      refine xr_iload_n C d_Mo_make_126 127 rfl rfl ?_
      refine xr_if_eq C d_Mo_make_127 130 157 rfl (by decide) (fun h127 => ?_) (fun h127 => ?_)
      · refine t157 b _ hb ⟨fun h => absurd (h127.symm.trans h) (by decide), fun h => ?_⟩
        exact hb2.mpr ⟨⟨h.1, by rw [h.2]⟩, fun k _ => by rw [h.2]⟩
      have hall := hb2.mp (hb.resolve_left h127)
      have c2 : c < (S.2.1 i).2.1.length := by omega
      have e1 := v2.2.2 _ (eD_mem c1)
      have e2 := w2.2.2 _ (eD_mem c2)
      refine xr_aload_n C d_Mo_make_130 131 rfl rfl ?_
      refine xr_sipush (v := 128) C d_Mo_make_131 134 rfl (by decide) ?_
      refine xr_iload_n C d_Mo_make_134 135 rfl rfl ?_
      refine xr_imul C d_Mo_make_135 136 rfl ?_
      refine xr_toi (show _ = nI (128 * j) from pk_mul 128 j) ?_
      refine xr_iload C d_Mo_make_136 138 rfl rfl ?_
      refine xr_iadd C d_Mo_make_138 139 rfl ?_
      refine xr_toi (show _ = nI ((128 * j) + c) from nI_add (128 * j) c) ?_
      refine xr_sipush (v := 128) C d_Mo_make_139 142 rfl (by decide) ?_
      refine xr_iload_n C d_Mo_make_142 143 rfl rfl ?_
      refine xr_imul C d_Mo_make_143 144 rfl ?_
      refine xr_toi (show _ = nI (128 * i) from pk_mul 128 i) ?_
      refine xr_iload C d_Mo_make_144 146 rfl rfl ?_
      refine xr_iadd C d_Mo_make_146 147 rfl ?_
      refine xr_toi (show _ = nI ((128 * i) + c) from nI_add (128 * i) c) ?_
      refine xr_callV C (c_Mo_sameKey hA (by omega) (by omega) (fs2.2 c c1) (hs2.2 c c2) e1.2.1 e1.2.2 e2.2.1 e2.2.2 (v3 _ (eD_mem c1)) (w3 _ (eD_mem c2))) k_Mo_sameKey d_Mo_make_147 150 rfl (mX_o hA) rfl (Or.inl q_1147) v_Mo_sameKey e_Mo_sameKey h_Mo_sameKey rfl ⟨Nat.le_of_ble_eq_true rfl, Nat.le_of_ble_eq_true rfl, Nat.le_of_ble_eq_true rfl⟩ (by omega) (by omega) (fun v9 X9 hP => ?_) (fun _ _ h => absurd h.1 (by simp))
      obtain ⟨h1, rfl⟩ := hP
      cases h1
      refine xr_istore_n C d_Mo_make_150 151 rfl rfl rfl ?_
      refine xr_iinc (v := 1) C d_Mo_make_151 154 rfl rfl rfl rfl (by decide) ?_
      refine xr_goto C d_Mo_make_154 115 (by decide) ?_
      refine xG.eqL (show _ = [some (Value.ref (A 0)), some (Value.int (nI j)), some (Value.int (nI i)), some (Value.int (if eD (S.2.1 j).2.1 c = eD (S.2.1 i).2.1 c then 1 else 0)), some (Value.int (nI (c + 1)))] by rw [← nI_one c]; rfl) ?_
      refine ih (c + 1) _ (by omega) (by split <;> simp) ?_
      by_cases hq : eD (S.2.1 j).2.1 c = eD (S.2.1 i).2.1 c
      · rw [if_pos hq]
        refine ⟨fun _ => ⟨hall.1, fun k hk => ?_⟩, fun _ => rfl⟩
        by_cases e : k = c
        · rw [e]
          exact hq
        · exact hall.2 k (by omega)
      · rw [if_neg hq]
        exact ⟨fun h => absurd h (by decide), fun h => absurd (h.2 c (by omega)) hq⟩
  have loopS : ∀ (r c : Nat) (b : Int32), c + r = (S.2.1 j).1.length → (b = 0 ∨ b = 1) → (b = 1 ↔ ((S.2.1 j).1.length = (S.2.1 i).1.length ∧ (S.2.1 j).2.1.length = (S.2.1 i).2.1.length) ∧ ∀ k, k < c → sD (S.2.1 j).1 k = sD (S.2.1 i).1 k) → xG E (mX E.D X0 A z0) 0 0 72 [some (.ref (A 0)), some (.int (nI j)), some (.int (nI i)), some (.int b), some (.int (nI c))] [] := by
    intro r
    induction r with
    | zero =>
      intro c b hcr hb hb2
      refine xr_iload C d_Mo_make_72 74 rfl rfl ?_
      refine xr_aload_n C d_Mo_make_74 75 rfl rfl ?_
      refine xr_get C K_Mo 1 d_Mo_make_75 78 rfl q_941 (Or.inl rfl) rfl (mX_o hA) rfl ?_
      refine xr_iload_n C d_Mo_make_78 79 rfl rfl ?_
      refine xr_iald (j := j) C d_Mo_make_79 80 rfl (mX_1 hA) rfl (by omega) (by omega) ?_
      refine xr_toi (show _ = nI ((S.2.1 j).1.length) from fs1.1) ?_
      refine xr_icmp_ge C d_Mo_make_80 83 112 rfl (by decide) (fun _ => ?_) (fun h => absurd (nI_le (show (S.2.1 j).1.length ≤ c by omega) (by omega)) h)
      refine xr_iconst (v := 0) C d_Mo_make_112 113 rfl (by decide) ?_
      refine xr_istore C d_Mo_make_113 115 rfl rfl rfl ?_
      exact loopE (S.2.1 j).2.1.length 0 b (by omega) hb (hb2.trans ⟨fun h => ⟨⟨ss_ext h.1.1 (fun k hk => h.2 k (by omega)), h.1.2⟩, fun k hk => absurd hk (Nat.not_lt_zero _)⟩, fun h => ⟨⟨by rw [h.1.1], h.1.2⟩, fun k _ => by rw [h.1.1]⟩⟩)
    | succ r ih =>
      intro c b hcr hb hb2
      have c1 : c < (S.2.1 j).1.length := by omega
      refine xr_iload C d_Mo_make_72 74 rfl rfl ?_
      refine xr_aload_n C d_Mo_make_74 75 rfl rfl ?_
      refine xr_get C K_Mo 1 d_Mo_make_75 78 rfl q_941 (Or.inl rfl) rfl (mX_o hA) rfl ?_
      refine xr_iload_n C d_Mo_make_78 79 rfl rfl ?_
      refine xr_iald (j := j) C d_Mo_make_79 80 rfl (mX_1 hA) rfl (by omega) (by omega) ?_
      refine xr_toi (show _ = nI ((S.2.1 j).1.length) from fs1.1) ?_
      refine xr_icmp_ge C d_Mo_make_80 83 112 rfl (by decide) (fun h => absurd h (nI_ge c1 (by omega))) (fun _ => ?_)
      refine xr_iload_n C d_Mo_make_83 84 rfl rfl ?_
      refine xr_if_eq C d_Mo_make_84 87 112 rfl (by decide) (fun h84 => ?_) (fun h84 => ?_)
      · refine xr_iconst (v := 0) C d_Mo_make_112 113 rfl (by decide) ?_
        refine xr_istore C d_Mo_make_113 115 rfl rfl rfl ?_
        refine loopE (S.2.1 j).2.1.length 0 b (by omega) hb ⟨fun h => absurd (h84.symm.trans h) (by decide), fun h => ?_⟩
        exact hb2.mpr ⟨⟨by rw [h.1.1], h.1.2⟩, fun k _ => by rw [h.1.1]⟩
      have hall := hb2.mp (hb.resolve_left h84)
      have c2 : c < (S.2.1 i).1.length := by omega
      refine xr_aload_n C d_Mo_make_87 88 rfl rfl ?_
      refine xr_bipush (v := 16) C d_Mo_make_88 90 rfl (by decide) ?_
      refine xr_iload_n C d_Mo_make_90 91 rfl rfl ?_
      refine xr_imul C d_Mo_make_91 92 rfl ?_
      refine xr_toi (show _ = nI (16 * j) from pk_mul 16 j) ?_
      refine xr_iload C d_Mo_make_92 94 rfl rfl ?_
      refine xr_iadd C d_Mo_make_94 95 rfl ?_
      refine xr_toi (show _ = nI ((16 * j) + c) from nI_add (16 * j) c) ?_
      refine xr_bipush (v := 16) C d_Mo_make_95 97 rfl (by decide) ?_
      refine xr_iload_n C d_Mo_make_97 98 rfl rfl ?_
      refine xr_imul C d_Mo_make_98 99 rfl ?_
      refine xr_toi (show _ = nI (16 * i) from pk_mul 16 i) ?_
      refine xr_iload C d_Mo_make_99 101 rfl rfl ?_
      refine xr_iadd C d_Mo_make_101 102 rfl ?_
      refine xr_toi (show _ = nI ((16 * i) + c) from nI_add (16 * i) c) ?_
      refine xr_callV C (c_Mo_sameSession hA (by omega) (by omega) (fs1.2 c c1) (hs1.2 c c2) (v1.2 _ (sD_mem c1)) (w1.2 _ (sD_mem c2)) (v4 _ (sD_mem c1)) (w4 _ (sD_mem c2))) k_Mo_sameSession d_Mo_make_102 105 rfl (mX_o hA) rfl (Or.inl q_1143) v_Mo_sameSession e_Mo_sameSession h_Mo_sameSession rfl ⟨Nat.le_of_ble_eq_true rfl, Nat.le_of_ble_eq_true rfl, Nat.le_of_ble_eq_true rfl⟩ (by omega) (by omega) (fun v9 X9 hP => ?_) (fun _ _ h => absurd h.1 (by simp))
      obtain ⟨h1, rfl⟩ := hP
      cases h1
      refine xr_istore_n C d_Mo_make_105 106 rfl rfl rfl ?_
      refine xr_iinc (v := 1) C d_Mo_make_106 109 rfl rfl rfl rfl (by decide) ?_
      refine xr_goto C d_Mo_make_109 72 (by decide) ?_
      refine xG.eqL (show _ = [some (Value.ref (A 0)), some (Value.int (nI j)), some (Value.int (nI i)), some (Value.int (if sD (S.2.1 j).1 c = sD (S.2.1 i).1 c then 1 else 0)), some (Value.int (nI (c + 1)))] by rw [← nI_one c]; rfl) ?_
      refine ih (c + 1) _ (by omega) (by split <;> simp) ?_
      by_cases hq : sD (S.2.1 j).1 c = sD (S.2.1 i).1 c
      · rw [if_pos hq]
        refine ⟨fun _ => ⟨hall.1, fun k hk => ?_⟩, fun _ => rfl⟩
        by_cases e : k = c
        · rw [e]
          exact hq
        · exact hall.2 k (by omega)
      · rw [if_neg hq]
        exact ⟨fun h => absurd h (by decide), fun h => absurd (h.2 c (by omega)) hq⟩
  have t68 : ∀ b : Int32, (b = 0 ∨ b = 1) → (b = 1 ↔ (S.2.1 j).1.length = (S.2.1 i).1.length ∧ (S.2.1 j).2.1.length = (S.2.1 i).2.1.length) → xG E (mX E.D X0 A z0) 0 0 68 [some (.ref (A 0)), some (.int (nI j)), some (.int (nI i)), none, none] [.int b] := by
    intro b hb hb2
    refine xr_istore_n C d_Mo_make_68 69 rfl rfl rfl ?_
    refine xr_iconst (v := 0) C d_Mo_make_69 70 rfl (by decide) ?_
    refine xr_istore C d_Mo_make_70 72 rfl rfl rfl ?_
    exact loopS (S.2.1 j).1.length 0 b (by omega) hb (hb2.trans ⟨fun h => ⟨h, fun k hk => absurd hk (Nat.not_lt_zero _)⟩, fun h => h.1⟩)
  refine xr_aload_n C d_Mo_make_33 34 rfl rfl ?_
  refine xr_get C K_Mo 1 d_Mo_make_34 37 rfl q_941 (Or.inl rfl) rfl (mX_o hA) rfl ?_
  refine xr_iload_n C d_Mo_make_37 38 rfl rfl ?_
  refine xr_iald (j := j) C d_Mo_make_38 39 rfl (mX_1 hA) rfl (by omega) (by omega) ?_
  refine xr_toi (show _ = nI (S.2.1 j).1.length from fs1.1) ?_
  refine xr_aload_n C d_Mo_make_39 40 rfl rfl ?_
  refine xr_get C K_Mo 1 d_Mo_make_40 43 rfl q_941 (Or.inl rfl) rfl (mX_o hA) rfl ?_
  refine xr_iload_n C d_Mo_make_43 44 rfl rfl ?_
  refine xr_iald (j := i) C d_Mo_make_44 45 rfl (mX_1 hA) rfl (by omega) (by omega) ?_
  refine xr_toi (show _ = nI (S.2.1 i).1.length from hs1.1) ?_
  refine xr_icmp_ne C d_Mo_make_45 48 67 rfl (by decide) (fun h45 => ?_) (fun h45 => ?_)
  · refine xr_iconst (v := 0) C d_Mo_make_67 68 rfl (by decide) ?_
    exact t68 0 (Or.inl rfl) ⟨fun h => absurd h (by decide), fun h => absurd (by rw [h.1]) h45⟩
  refine xr_aload_n C d_Mo_make_48 49 rfl rfl ?_
  refine xr_get C K_Mo 8 d_Mo_make_49 52 rfl q_948 (Or.inl rfl) rfl (mX_o hA) rfl ?_
  refine xr_iload_n C d_Mo_make_52 53 rfl rfl ?_
  refine xr_iald (j := j) C d_Mo_make_53 54 rfl (mX_8 hA) rfl (by omega) (by omega) ?_
  refine xr_toi (show _ = nI (S.2.1 j).2.1.length from fs2.1) ?_
  refine xr_aload_n C d_Mo_make_54 55 rfl rfl ?_
  refine xr_get C K_Mo 8 d_Mo_make_55 58 rfl q_948 (Or.inl rfl) rfl (mX_o hA) rfl ?_
  refine xr_iload_n C d_Mo_make_58 59 rfl rfl ?_
  refine xr_iald (j := i) C d_Mo_make_59 60 rfl (mX_8 hA) rfl (by omega) (by omega) ?_
  refine xr_toi (show _ = nI (S.2.1 i).2.1.length from hs2.1) ?_
  refine xr_icmp_ne C d_Mo_make_60 63 67 rfl (by decide) (fun h60 => ?_) (fun h60 => ?_)
  · refine xr_iconst (v := 0) C d_Mo_make_67 68 rfl (by decide) ?_
    exact t68 0 (Or.inl rfl) ⟨fun h => absurd h (by decide), fun h => absurd (by rw [h.2]) h60⟩
  · refine xr_iconst (v := 1) C d_Mo_make_63 64 rfl (by decide) ?_
    refine xr_goto C d_Mo_make_64 68 (by decide) ?_
    exact t68 1 (Or.inr rfl) ⟨fun _ => ⟨(nI_eq (by omega) (by omega)).mp h45, (nI_eq (by omega) (by omega)).mp h60⟩, fun _ => rfl⟩
