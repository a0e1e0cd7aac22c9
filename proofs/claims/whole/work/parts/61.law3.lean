/-! The law: its loop, its start. -/
set_option maxRecDepth 100000 in
set_option maxHeartbeats 4000000 in
theorem law_loop {E : xE} (C : xCx E x code 7 (some .boolean) [] 20 601024 7293034 PT) {b N : Nat} {g : Nat → Int32} (hX : va_X b N g E.s E.s.heap) (hb : b < E.H0.size) (hN : N ≤ 3072) {F A : Nat → Nat} {out : Nat} : ∀ (r j : Nat), j + r = 513 → ∀ (X : xH) (V : Nat → Nat) (I : Nat → Option Imm) (s : MS) (f : Nat → Int64) (S : St) (cells slots : Nat) (u5 u6 : Option Value), xCo E.D X F V I A s out f S → mRel s S → inv2 S → cells ≤ 100 + 12 * j + pC V → slots ≤ 20000 + 2000 * j + pS V → xG E X cells slots 23 [some (.ref b), some (.ref (F 0)), some (.ref (A 0)), some (.ref out), some (.int (nI (6 * j))), u5, u6] [] := by
  intro r
  induction r with
  | zero =>
    intro j hr X V I s f S cells slots u5 u6 hC hR hV hc hs
    have hp := hC.1.pot
    have hp1 := hp.1
    have hp2 := hp.2
    have hsub : (nI N - nI 6).toInt = (N : Int) - 6 := sub2_int (by omega) (by omega)
    have h6 : (nI (6 * j)).toInt = ((6 * j : Nat) : Int) := nI_int (by omega)
    refine xr_iload C d_law_23 25 rfl rfl ?_
    refine xr_aload_n C d_law_25 26 rfl rfl ?_
    refine xr_slen C hX hb d_law_26 27 rfl ?_
    refine xr_bipush (v := 6) C d_law_27 29 rfl (by decide) ?_
    refine xr_isub C d_law_29 30 rfl ?_
    refine xr_icmp_gt C d_law_30 33 934 rfl (by decide) (fun _ => ?_) (fun h => absurd ((lt_int hsub h6).mpr (by omega)) h)
    refine xr_iconst (v := 1) C d_law_934 935 rfl (by decide) ?_
    exact xr_zret C d_law_935 rfl (by omega) (by omega) rfl
  | succ r ih =>
    intro j hr X V I s f S cells slots u5 u6 hC hR hV hc hs
    have hp := hC.1.pot
    have hp1 := hp.1
    have hp2 := hp.2
    have hsub : (nI N - nI 6).toInt = (N : Int) - 6 := sub2_int (by omega) (by omega)
    have h6 : (nI (6 * j)).toInt = ((6 * j : Nat) : Int) := nI_int (by omega)
    by_cases hi : 6 * j + 6 ≤ N
    rotate_left
    · refine xr_iload C d_law_23 25 rfl rfl ?_
      refine xr_aload_n C d_law_25 26 rfl rfl ?_
      refine xr_slen C hX hb d_law_26 27 rfl ?_
      refine xr_bipush (v := 6) C d_law_27 29 rfl (by decide) ?_
      refine xr_isub C d_law_29 30 rfl ?_
      refine xr_icmp_gt C d_law_30 33 934 rfl (by decide) (fun _ => ?_) (fun h => absurd ((lt_int hsub h6).mpr (by omega)) h)
      refine xr_iconst (v := 1) C d_law_934 935 rfl (by decide) ?_
      exact xr_zret C d_law_935 rfl (by omega) (by omega) rfl
    refine xr_iload C d_law_23 25 rfl rfl ?_
    refine xr_aload_n C d_law_25 26 rfl rfl ?_
    refine xr_slen C hX hb d_law_26 27 rfl ?_
    refine xr_bipush (v := 6) C d_law_27 29 rfl (by decide) ?_
    refine xr_isub C d_law_29 30 rfl ?_
    refine xr_icmp_gt C d_law_30 33 934 rfl (by decide) (fun h => absurd ((lt_int hsub h6).mp h) (by omega)) (fun _ => ?_)
    have hj : j ≤ 512 := by omega
    have kn : lK E F A b out (6 * j) j := by
      intro X V I s f S cells slots u5 u6 hC hR hV hc hs
      refine xr_iinc (v := 6) C d_law_928 931 rfl rfl rfl rfl (by decide) ?_
      refine xr_goto C d_law_931 23 (by decide) ?_
      refine xG.eqL (show _ = [some (Value.ref b), some (Value.ref (F 0)), some (Value.ref (A 0)), some (Value.ref out), some (Value.int (nI (6 * (j + 1)))), u5, u6] by rw [show nI (6 * (j + 1)) = nI (6 * j) + nI 6 from (nI_add _ _).symm]; rfl) ?_
      exact ih (j + 1) (by omega) X V I s f S cells slots u5 u6 hC hR hV hc hs
    refine xr_aload_n C d_law_33 34 rfl rfl ?_
    refine xr_iload C d_law_34 36 rfl rfl ?_
    refine xr_sld (j := 6 * j) C hX hb d_law_36 37 rfl rfl (by omega) (by omega) ?_
    refine xr_bipush (v := 15) C d_law_37 39 rfl (by decide) ?_
    refine xr_iand C d_law_39 40 rfl ?_
    obtain ⟨k, hk, e⟩ := and15 (g (6 * j))
    refine xr_toi (show _ = nI k from e) ?_
    clear e
    have hk16 : k = 0 ∨ k = 1 ∨ k = 2 ∨ k = 3 ∨ k = 4 ∨ k = 5 ∨ k = 6 ∨ k = 7 ∨ k = 8 ∨ k = 9 ∨ k = 10 ∨ k = 11 ∨ k = 12 ∨ k = 13 ∨ k = 14 ∨ k = 15 := by omega
    rcases hk16 with rfl | rfl | rfl | rfl | rfl | rfl | rfl | rfl | rfl | rfl | rfl | rfl | rfl | rfl | rfl | rfl
    · refine xr_tableIn C d_law_40 104 (by decide) (by decide) rfl (by decide) ?_
      exact law_feed C hX hb hN hC hR hV hi hj hc hs kn
    · refine xr_tableIn C d_law_40 204 (by decide) (by decide) rfl (by decide) ?_
      exact law_open C hX hb hN hC hR hV hi hj hc hs kn
    · refine xr_tableIn C d_law_40 272 (by decide) (by decide) rfl (by decide) ?_
      exact law_run C hX hb hN hC hR hV hi hj hc hs kn
    · refine xr_tableIn C d_law_40 376 (by decide) (by decide) rfl (by decide) ?_
      exact law_read C hX hb hN hC hR hV hi hj hc hs kn
    · refine xr_tableIn C d_law_40 444 (by decide) (by decide) rfl (by decide) ?_
      exact law_row C hX hb hN hC hR hV hi hj hc hs kn
    · refine xr_tableIn C d_law_40 500 (by decide) (by decide) rfl (by decide) ?_
      exact law_make C hX hb hN hC hR hV hi hj hc hs kn
    · refine xr_tableIn C d_law_40 575 (by decide) (by decide) rfl (by decide) ?_
      exact law_clear C hX hb hN hC hR hV hi hj hc hs kn
    · refine xr_tableIn C d_law_40 631 (by decide) (by decide) rfl (by decide) ?_
      exact law_session C hX hb hN hC hR hV hi hj hc hs kn
    · refine xr_tableIn C d_law_40 711 (by decide) (by decide) rfl (by decide) ?_
      exact law_key C hX hb hN hC hR hV hi hj hc hs kn
    · refine xr_tableIn C d_law_40 791 (by decide) (by decide) rfl (by decide) ?_
      exact law_state C hX hb hN hC hR hV hi hj hc hs kn
    · refine xr_tableIn C d_law_40 859 (by decide) (by decide) rfl (by decide) ?_
      exact law_place C hX hb hN hC hR hV hi hj hc hs kn
    · refine xr_tableIn C d_law_40 872 (by decide) (by decide) rfl (by decide) ?_
      exact law_byteAt C hX hb hN hC hR hV hi hj hc hs kn
    · refine xr_tableOut C d_law_40 928 (by decide) (by decide) ?_
      exact kn X V I s f S cells slots u5 u6 hC hR hV (by omega) (by omega)
    · refine xr_tableOut C d_law_40 928 (by decide) (by decide) ?_
      exact kn X V I s f S cells slots u5 u6 hC hR hV (by omega) (by omega)
    · refine xr_tableOut C d_law_40 928 (by decide) (by decide) ?_
      exact kn X V I s f S cells slots u5 u6 hC hR hV (by omega) (by omega)
    · refine xr_tableOut C d_law_40 928 (by decide) (by decide) ?_
      exact kn X V I s f S cells slots u5 u6 hC hR hV (by omega) (by omega)
set_option maxRecDepth 100000 in
set_option maxHeartbeats 4000000 in
theorem law_main {E : xE} (C : xCx E x code 7 (some .boolean) [] 20 601024 7293034 PT) {b N : Nat} {g : Nat → Int32} (hX : va_X b N g E.s E.s.heap) (hb : b < E.H0.size) (hN : N ≤ 3072) {X : xH} {fe : Nat → Int32} {fd : Nat → Option Nat} (hE : X (E.D.2 200 0) = some (.inl (E.D.1 100, 0, .inl fe))) (hD : X (E.D.2 200 1) = some (.inl (E.D.1 101, 0, .inr (.inr (.inr (.inr fd)))))) : xG E X 0 0 0 [some (.ref b), none, none, none, none, none, none] [] := by
  refine xr_new (fs := [.null, .null, .null, .null, .int 0, .int 0]) C K_TK d_law_0 3 rfl q_29 q_30 q_1 (by intro j hj; match j, hj with | 0, _ => rfl | 1, _ => rfl | 2, _ => rfl | 3, _ => rfl | 4, _ => rfl | 5, _ => rfl) (by omega) (by omega) (fun tk htk0 => ?_)
  refine xr_dup C d_law_3 4 rfl rfl ?_
  refine xr_callI C (c_TK_init xup_self (xup_fresh hE htk0) (xup_fresh hD htk0)) kc_TK_init d_law_4 7 rfl (Or.inl q_31) v_TK_init rfl h_TK_init rfl ⟨Nat.le_of_ble_eq_true rfl, Nat.le_of_ble_eq_true rfl, Nat.le_of_ble_eq_true rfl⟩ (by omega) (by omega) (fun v9 X1 hP => ?_) (fun _ _ h => absurd h.1 (by simp))
  obtain ⟨e1, f1, F, V, I, hF0, v1, v20, v21, v40, v41, hK⟩ := hP
  cases e1
  subst hF0
  refine xr_astore_n C d_law_7 8 rfl rfl rfl ?_
  refine xr_new (fs := mfresh) C K_Mo d_law_8 11 rfl q_934 q_935 q_8 (by intro j hj; match j, hj with | 0, _ => rfl | 1, _ => rfl | 2, _ => rfl | 3, _ => rfl | 4, _ => rfl | 5, _ => rfl | 6, _ => rfl | 7, _ => rfl | 8, _ => rfl | 9, _ => rfl | 10, _ => rfl | 11, _ => rfl | 12, _ => rfl | 13, _ => rfl | 14, _ => rfl | 15, _ => rfl | 16, _ => rfl | 17, _ => rfl | 18, _ => rfl | 19, _ => rfl | 20, _ => rfl | 21, _ => rfl | 22, _ => rfl | k + 23, h => exact absurd h (by omega)) (by omega) (by omega) (fun ob hob => ?_)
  refine xr_dup C d_law_11 12 rfl rfl ?_
  refine xr_callI C (c_Mo_init xup_self) kc_Mo_init d_law_12 15 rfl (Or.inl q_936) v_Mo_init rfl h_Mo_init rfl ⟨Nat.le_of_ble_eq_true rfl, Nat.le_of_ble_eq_true rfl, Nat.le_of_ble_eq_true rfl⟩ (by omega) (by omega) (fun v9 X2 hP => ?_) (fun _ _ h => absurd h.1 (by simp))
  obtain ⟨e1, f2, A, hA0, hA, hk⟩ := hP
  cases e1
  subst hA0
  refine xr_astore_n C d_law_15 16 rfl rfl rfl ?_
  refine xr_iconst (v := 1) C d_law_16 17 rfl (by decide) ?_
  refine xr_newl (N := 1) C d_law_17 19 rfl q_1011 rfl (by omega) (by omega) (by omega) (fun out ho => ?_)
  refine xr_astore_n C d_law_19 20 rfl rfl rfl ?_
  refine xr_iconst (v := 0) C d_law_20 21 rfl (by decide) ?_
  refine xr_istore C d_law_21 23 rfl rfl rfl ?_
  obtain ⟨I', hCo⟩ := xCo_new hK hob rfl f2 hA hk ho rfl
  refine xG.eqL (show _ = [some (Value.ref b), some (Value.ref (F 0)), some (Value.ref (A 0)), some (Value.ref out), some (Value.int (nI (6 * 0))), none, none] from rfl) ?_
  refine law_loop C hX hb hN 513 0 rfl _ V I' mz _ s0 _ _ none none hCo mRel_s0 inv2_s0 ?_ ?_
  · unfold pC
    omega
  · unfold pS
    omega
