/-! Sessions and entries. -/
abbrev Ss := Int32 × Int32 × Int32 × Int32 × List Int32
abbrev Es := List Int32 × List Int32
def imS (I : Nat → Option Imm) (a : Nat) (s : Ss) : Prop := ∃ q : Nat, I a = some (.inr (.inl (s.1, s.2.1, s.2.2.1, s.2.2.2.1, q))) ∧ I q = some (.inl s.2.2.2.2)
def imE (I : Nat → Option Imm) (a : Nat) (e : Es) : Prop := ∃ k v : Nat, I a = some (.inr (.inr (.inl (k, v)))) ∧ I k = some (.inl e.1) ∧ I v = some (.inl e.2)
theorem imS.le {I I' : Nat → Option Imm} {a : Nat} {s : Ss} (h : imS I a s) (hl : imLe I I') : imS I' a s := by
  obtain ⟨q, h1, h2⟩ := h
  exact ⟨q, hl _ _ h1, hl _ _ h2⟩
theorem imE.le {I I' : Nat → Option Imm} {a : Nat} {s : Es} (h : imE I a s) (hl : imLe I I') : imE I' a s := by
  obtain ⟨k, v, h1, h2, h3⟩ := h
  exact ⟨k, v, hl _ _ h1, hl _ _ h2, hl _ _ h3⟩
theorem imS.use {D : va_G} {X : xH} {I : Nat → Option Imm} {a : Nat} {s : Ss} (h : imS I a s) (hI : xIm D X I) : ∃ q : Nat, X a = some (.inr (4, [.int s.1, .int s.2.1, .int s.2.2.1, .int s.2.2.2.1, .ref q])) ∧ xBy D X q s.2.2.2.2 ∧ I q = some (.inl s.2.2.2.2) := by
  obtain ⟨q, h1, h2⟩ := h
  exact ⟨q, hI _ _ h1, hI _ _ h2, h2⟩
theorem imE.use {D : va_G} {X : xH} {I : Nat → Option Imm} {a : Nat} {e : Es} (h : imE I a e) (hI : xIm D X I) : ∃ k v : Nat, X a = some (.inr (5, [.ref k, .ref v])) ∧ xBy D X k e.1 ∧ xBy D X v e.2 ∧ I k = some (.inl e.1) ∧ I v = some (.inl e.2) := by
  obtain ⟨k, v, h1, h2, h3⟩ := h
  exact ⟨k, v, hI _ _ h1, hI _ _ h2, hI _ _ h3, h2, h3⟩
theorem imS.ob {D : va_G} {X : xH} {I : Nat → Option Imm} {a : Nat} {s : Ss} (h : imS I a s) (hI : xIm D X I) : xOb X a := by
  obtain ⟨q, h1, -⟩ := h.use hI
  exact ⟨4, _, _, h1, rfl, q_1199⟩
theorem imE.ob {D : va_G} {X : xH} {I : Nat → Option Imm} {a : Nat} {e : Es} (h : imE I a e) (hI : xIm D X I) : xOb X a := by
  obtain ⟨k, v, h1, -⟩ := h.use hI
  exact ⟨5, _, _, h1, rfl, q_1201⟩
theorem xBy.ar {D : va_G} {X : xH} {a : Nat} {bs : List Int32} (h : xBy D X a bs) : ∃ f, X a = some (.inl (D.1 100, bs.length, .inl f)) := by
  obtain ⟨-, f, h1, -⟩ := h
  exact ⟨f, h1⟩
theorem xBy.len {D : va_G} {X : xH} {a : Nat} {bs : List Int32} (h : xBy D X a bs) : bs.length ≤ 300 := h.1
theorem isR.step {c n total d : Nat} (h : isR c total d) (hn : n ≤ total) (hc : 0 < c) : ∃ d', isR c n d' ∧ isR d' total d ∧ c ≤ d' ∧ d' ≤ d := by
  obtain ⟨d', h1⟩ := isR.ex (n := n) hc
  have h2 := h1.then h hn
  exact ⟨d', h1, h2, h1.le, h2.le⟩
set_option maxRecDepth 100000 in
set_option maxHeartbeats 4000000 in
theorem c_Se_init {l : Launch} {D : va_G} {H0 : Heap} {X : xH} {a q : Nat} {n u s p : Int32} {w0 w1 w2 w3 w4 : Value} (ha : X a = some (.inr (4, [w0, w1, w2, w3, w4]))) : xMet l D H0 y_Se_init b_Se_init 6 none [] 0 0 0 [.ref a, .int n, .int u, .int s, .int p, .ref q] X (fun o X' => o = .inl none ∧ X' = xup X a (.inr (4, [.int n, .int u, .int s, .int p, .ref q]))) := by
  refine ⟨[some (.ref a), some (.int n), some (.int u), some (.int s), some (.int p), some (.ref q)], rfl, Nat.le_of_ble_eq_true rfl, fun E hD hH hl _ C => ?_⟩
  subst hD
  subst hH
  subst hl
  refine xr_aload_n C d_Se_init_0 1 rfl rfl ?_
  refine xr_objInit C d_Se_init_1 4 rfl q_310 w_oi w_oc (Nat.le_of_ble_eq_true rfl) ?_
  refine xr_aload_n C d_Se_init_4 5 rfl rfl ?_
  refine xr_iload_n C d_Se_init_5 6 rfl rfl ?_
  refine xr_putF C K_Se 0 d_Se_init_6 9 rfl q_311 (Or.inl rfl) rfl rfl rfl rfl rfl rfl (by first | assumption | exact xup_self | exact (xup_ne (by assumption)).trans (by assumption) | exact (xup_ne (Ne.symm (by assumption))).trans (by assumption) | exact (xup_ne (by assumption)).trans xup_self | exact (xup_ne (Ne.symm (by assumption))).trans xup_self) rfl rfl ?_
  refine xr_aload_n C d_Se_init_9 10 rfl rfl ?_
  refine xr_iload_n C d_Se_init_10 11 rfl rfl ?_
  refine xr_putF C K_Se 1 d_Se_init_11 14 rfl q_314 (Or.inl rfl) rfl rfl rfl rfl rfl rfl (by first | assumption | exact xup_self | exact (xup_ne (by assumption)).trans (by assumption) | exact (xup_ne (Ne.symm (by assumption))).trans (by assumption) | exact (xup_ne (by assumption)).trans xup_self | exact (xup_ne (Ne.symm (by assumption))).trans xup_self) rfl rfl ?_
  refine xr_aload_n C d_Se_init_14 15 rfl rfl ?_
  refine xr_iload_n C d_Se_init_15 16 rfl rfl ?_
  refine xr_putF C K_Se 2 d_Se_init_16 19 rfl q_317 (Or.inl rfl) rfl rfl rfl rfl rfl rfl (by first | assumption | exact xup_self | exact (xup_ne (by assumption)).trans (by assumption) | exact (xup_ne (Ne.symm (by assumption))).trans (by assumption) | exact (xup_ne (by assumption)).trans xup_self | exact (xup_ne (Ne.symm (by assumption))).trans xup_self) rfl rfl ?_
  refine xr_aload_n C d_Se_init_19 20 rfl rfl ?_
  refine xr_iload C d_Se_init_20 22 rfl rfl ?_
  refine xr_putF C K_Se 3 d_Se_init_22 25 rfl q_319 (Or.inl rfl) rfl rfl rfl rfl rfl rfl (by first | assumption | exact xup_self | exact (xup_ne (by assumption)).trans (by assumption) | exact (xup_ne (Ne.symm (by assumption))).trans (by assumption) | exact (xup_ne (by assumption)).trans xup_self | exact (xup_ne (Ne.symm (by assumption))).trans xup_self) rfl rfl ?_
  refine xr_aload_n C d_Se_init_25 26 rfl rfl ?_
  refine xr_aload C d_Se_init_26 28 rfl rfl ?_
  refine xr_putF C K_Se 4 d_Se_init_28 31 rfl q_321 (Or.inl rfl) rfl rfl rfl rfl rfl rfl (by first | assumption | exact xup_self | exact (xup_ne (by assumption)).trans (by assumption) | exact (xup_ne (Ne.symm (by assumption))).trans (by assumption) | exact (xup_ne (by assumption)).trans xup_self | exact (xup_ne (Ne.symm (by assumption))).trans xup_self) rfl rfl ?_
  exact xr_vret C d_Se_init_31 (by omega) (by omega) ⟨rfl, by simp only [xup_up]; rfl⟩
set_option maxRecDepth 100000 in
set_option maxHeartbeats 4000000 in
theorem c_Se_usedAt {l : Launch} {D : va_G} {H0 : Heap} {X : xH} {a q : Nat} {n u s p z : Int32} (ha : X a = some (.inr (4, [.int n, .int u, .int s, .int p, .ref q]))) : xMet l D H0 y_Se_usedAt b_Se_usedAt 2 (some (.object "TwinKeepers$Session")) [] 1 1 5 [.ref a, .int z] X (fun o X' => ∃ a' : Nat, o = .inl (some (.ref a')) ∧ X a' = none ∧ X' = xup X a' (.inr (4, [.int n, .int z, .int s, .int p, .ref q]))) := by
  refine ⟨[some (.ref a), some (.int z)], rfl, Nat.le_of_ble_eq_true rfl, fun E hD hH hl _ C => ?_⟩
  subst hD
  subst hH
  subst hl
  refine xr_new (fs := [.int 0, .int 0, .int 0, .int 0, .null]) C K_Se d_Se_usedAt_0 3 rfl q_437 q_304 q_18 (by intro j hj; match j, hj with | 0, _ => rfl | 1, _ => rfl | 2, _ => rfl | 3, _ => rfl | 4, _ => rfl) (by omega) (by omega) (fun q9 hq9 => ?_)
  have ha' := xup_fresh (v := .inr (4, [.int 0, .int 0, .int 0, .int 0, .null])) ha hq9
  refine xr_dup C d_Se_usedAt_3 4 rfl rfl ?_
  refine xr_aload_n C d_Se_usedAt_4 5 rfl rfl ?_
  refine xr_get C K_Se 0 d_Se_usedAt_5 8 rfl q_311 (Or.inl rfl) rfl (by first | assumption | exact xup_self | exact (xup_ne (by assumption)).trans (by assumption) | exact (xup_ne (Ne.symm (by assumption))).trans (by assumption) | exact (xup_ne (by assumption)).trans xup_self | exact (xup_ne (Ne.symm (by assumption))).trans xup_self) rfl ?_
  refine xr_iload_n C d_Se_usedAt_8 9 rfl rfl ?_
  refine xr_aload_n C d_Se_usedAt_9 10 rfl rfl ?_
  refine xr_get C K_Se 2 d_Se_usedAt_10 13 rfl q_317 (Or.inl rfl) rfl (by first | assumption | exact xup_self | exact (xup_ne (by assumption)).trans (by assumption) | exact (xup_ne (Ne.symm (by assumption))).trans (by assumption) | exact (xup_ne (by assumption)).trans xup_self | exact (xup_ne (Ne.symm (by assumption))).trans xup_self) rfl ?_
  refine xr_aload_n C d_Se_usedAt_13 14 rfl rfl ?_
  refine xr_get C K_Se 3 d_Se_usedAt_14 17 rfl q_319 (Or.inl rfl) rfl (by first | assumption | exact xup_self | exact (xup_ne (by assumption)).trans (by assumption) | exact (xup_ne (Ne.symm (by assumption))).trans (by assumption) | exact (xup_ne (by assumption)).trans xup_self | exact (xup_ne (Ne.symm (by assumption))).trans xup_self) rfl ?_
  refine xr_aload_n C d_Se_usedAt_17 18 rfl rfl ?_
  refine xr_get C K_Se 4 d_Se_usedAt_18 21 rfl q_321 (Or.inl rfl) rfl (by first | assumption | exact xup_self | exact (xup_ne (by assumption)).trans (by assumption) | exact (xup_ne (Ne.symm (by assumption))).trans (by assumption) | exact (xup_ne (by assumption)).trans xup_self | exact (xup_ne (Ne.symm (by assumption))).trans xup_self) rfl ?_
  refine xr_callI C (c_Se_init xup_self) kc_Se_init d_Se_usedAt_21 24 rfl (Or.inl q_438) v_Se_init rfl h_Se_init rfl ⟨Nat.le_of_ble_eq_true rfl, Nat.le_of_ble_eq_true rfl, Nat.le_of_ble_eq_true rfl⟩ (by omega) (by omega) (fun v9 X' hP => ?_) (fun _ _ h => absurd h.1 (by simp))
  obtain ⟨h1, rfl⟩ := hP
  cases h1
  refine xG.eqX xup_up ?_
  exact xr_aret C d_Se_usedAt_24 (Or.inl ⟨_, rfl⟩) (by omega) (by omega) ⟨q9, rfl, hq9, rfl⟩
set_option maxRecDepth 100000 in
set_option maxHeartbeats 4000000 in
theorem c_Se_answered {l : Launch} {D : va_G} {H0 : Heap} {X : xH} {a q q1 : Nat} {n u s p s1 z : Int32} (ha : X a = some (.inr (4, [.int n, .int u, .int s, .int p, .ref q]))) : xMet l D H0 y_Se_answered b_Se_answered 4 (some (.object "TwinKeepers$Session")) [] 1 1 5 [.ref a, .int s1, .int z, .ref q1] X (fun o X' => ∃ a' : Nat, o = .inl (some (.ref a')) ∧ X a' = none ∧ X' = xup X a' (.inr (4, [.int n, .int z, .int s1, .int z, .ref q1]))) := by
  refine ⟨[some (.ref a), some (.int s1), some (.int z), some (.ref q1)], rfl, Nat.le_of_ble_eq_true rfl, fun E hD hH hl _ C => ?_⟩
  subst hD
  subst hH
  subst hl
  refine xr_new (fs := [.int 0, .int 0, .int 0, .int 0, .null]) C K_Se d_Se_answered_0 3 rfl q_437 q_304 q_18 (by intro j hj; match j, hj with | 0, _ => rfl | 1, _ => rfl | 2, _ => rfl | 3, _ => rfl | 4, _ => rfl) (by omega) (by omega) (fun q9 hq9 => ?_)
  have ha' := xup_fresh (v := .inr (4, [.int 0, .int 0, .int 0, .int 0, .null])) ha hq9
  refine xr_dup C d_Se_answered_3 4 rfl rfl ?_
  refine xr_aload_n C d_Se_answered_4 5 rfl rfl ?_
  refine xr_get C K_Se 0 d_Se_answered_5 8 rfl q_311 (Or.inl rfl) rfl (by first | assumption | exact xup_self | exact (xup_ne (by assumption)).trans (by assumption) | exact (xup_ne (Ne.symm (by assumption))).trans (by assumption) | exact (xup_ne (by assumption)).trans xup_self | exact (xup_ne (Ne.symm (by assumption))).trans xup_self) rfl ?_
  refine xr_iload_n C d_Se_answered_8 9 rfl rfl ?_
  refine xr_iload_n C d_Se_answered_9 10 rfl rfl ?_
  refine xr_iload_n C d_Se_answered_10 11 rfl rfl ?_
  refine xr_aload_n C d_Se_answered_11 12 rfl rfl ?_
  refine xr_callI C (c_Se_init xup_self) kc_Se_init d_Se_answered_12 15 rfl (Or.inl q_438) v_Se_init rfl h_Se_init rfl ⟨Nat.le_of_ble_eq_true rfl, Nat.le_of_ble_eq_true rfl, Nat.le_of_ble_eq_true rfl⟩ (by omega) (by omega) (fun v9 X' hP => ?_) (fun _ _ h => absurd h.1 (by simp))
  obtain ⟨h1, rfl⟩ := hP
  cases h1
  refine xG.eqX xup_up ?_
  exact xr_aret C d_Se_answered_15 (Or.inl ⟨_, rfl⟩) (by omega) (by omega) ⟨q9, rfl, hq9, rfl⟩
set_option maxRecDepth 100000 in
set_option maxHeartbeats 4000000 in
theorem c_Se_isLike {l : Launch} {D : va_G} {H0 : Heap} {X : xH} {a b : Nat} {I : Nat → Option Imm} {s t : Ss} (hI : xIm D X I) (ha : imS I a s) (hb : imS I b t) : xMet l D H0 y_Se_isLike b_Se_isLike 2 (some .boolean) [] 2 0 0 [.ref a, .ref b] X (fun o X' => o = .inl (some (.int (if s = t then 1 else 0))) ∧ X' = X) := by
  obtain ⟨p, ha1, ha2, -⟩ := ha.use hI
  obtain ⟨q, hb1, hb2, -⟩ := hb.use hI
  refine ⟨[some (.ref a), some (.ref b)], rfl, Nat.le_of_ble_eq_true rfl, fun E hD hH hl _ C => ?_⟩
  subst hD
  subst hH
  subst hl
  have no : s ≠ t → xG E X 0 0 62 [some (.ref a), some (.ref b)] [] := by
    intro h
    refine xr_iconst (v := 0) C d_Se_isLike_62 63 rfl (by decide) ?_
    exact xr_zret C d_Se_isLike_63 rfl (by omega) (by omega) ⟨by rw [if_neg h], rfl⟩
  refine xr_aload_n C d_Se_isLike_0 1 rfl rfl ?_
  refine xr_get C K_Se 0 d_Se_isLike_1 4 rfl q_311 (Or.inl rfl) rfl (by first | assumption | exact xup_self | exact (xup_ne (by assumption)).trans (by assumption) | exact (xup_ne (Ne.symm (by assumption))).trans (by assumption) | exact (xup_ne (by assumption)).trans xup_self | exact (xup_ne (Ne.symm (by assumption))).trans xup_self) rfl ?_
  refine xr_aload_n C d_Se_isLike_4 5 rfl rfl ?_
  refine xr_get C K_Se 0 d_Se_isLike_5 8 rfl q_311 (Or.inl rfl) rfl (by first | assumption | exact xup_self | exact (xup_ne (by assumption)).trans (by assumption) | exact (xup_ne (Ne.symm (by assumption))).trans (by assumption) | exact (xup_ne (by assumption)).trans xup_self | exact (xup_ne (Ne.symm (by assumption))).trans xup_self) rfl ?_
  refine xr_icmp_ne C d_Se_isLike_8 11 62 rfl (by decide) (fun j1 => no (fun e => j1 (by rw [e]))) (fun j1 => ?_)
  refine xr_aload_n C d_Se_isLike_11 12 rfl rfl ?_
  refine xr_get C K_Se 1 d_Se_isLike_12 15 rfl q_314 (Or.inl rfl) rfl (by first | assumption | exact xup_self | exact (xup_ne (by assumption)).trans (by assumption) | exact (xup_ne (Ne.symm (by assumption))).trans (by assumption) | exact (xup_ne (by assumption)).trans xup_self | exact (xup_ne (Ne.symm (by assumption))).trans xup_self) rfl ?_
  refine xr_aload_n C d_Se_isLike_15 16 rfl rfl ?_
  refine xr_get C K_Se 1 d_Se_isLike_16 19 rfl q_314 (Or.inl rfl) rfl (by first | assumption | exact xup_self | exact (xup_ne (by assumption)).trans (by assumption) | exact (xup_ne (Ne.symm (by assumption))).trans (by assumption) | exact (xup_ne (by assumption)).trans xup_self | exact (xup_ne (Ne.symm (by assumption))).trans xup_self) rfl ?_
  refine xr_icmp_ne C d_Se_isLike_19 22 62 rfl (by decide) (fun j2 => no (fun e => j2 (by rw [e]))) (fun j2 => ?_)
  refine xr_aload_n C d_Se_isLike_22 23 rfl rfl ?_
  refine xr_get C K_Se 2 d_Se_isLike_23 26 rfl q_317 (Or.inl rfl) rfl (by first | assumption | exact xup_self | exact (xup_ne (by assumption)).trans (by assumption) | exact (xup_ne (Ne.symm (by assumption))).trans (by assumption) | exact (xup_ne (by assumption)).trans xup_self | exact (xup_ne (Ne.symm (by assumption))).trans xup_self) rfl ?_
  refine xr_aload_n C d_Se_isLike_26 27 rfl rfl ?_
  refine xr_get C K_Se 2 d_Se_isLike_27 30 rfl q_317 (Or.inl rfl) rfl (by first | assumption | exact xup_self | exact (xup_ne (by assumption)).trans (by assumption) | exact (xup_ne (Ne.symm (by assumption))).trans (by assumption) | exact (xup_ne (by assumption)).trans xup_self | exact (xup_ne (Ne.symm (by assumption))).trans xup_self) rfl ?_
  refine xr_icmp_ne C d_Se_isLike_30 33 62 rfl (by decide) (fun j3 => no (fun e => j3 (by rw [e]))) (fun j3 => ?_)
  refine xr_aload_n C d_Se_isLike_33 34 rfl rfl ?_
  refine xr_get C K_Se 3 d_Se_isLike_34 37 rfl q_319 (Or.inl rfl) rfl (by first | assumption | exact xup_self | exact (xup_ne (by assumption)).trans (by assumption) | exact (xup_ne (Ne.symm (by assumption))).trans (by assumption) | exact (xup_ne (by assumption)).trans xup_self | exact (xup_ne (Ne.symm (by assumption))).trans xup_self) rfl ?_
  refine xr_aload_n C d_Se_isLike_37 38 rfl rfl ?_
  refine xr_get C K_Se 3 d_Se_isLike_38 41 rfl q_319 (Or.inl rfl) rfl (by first | assumption | exact xup_self | exact (xup_ne (by assumption)).trans (by assumption) | exact (xup_ne (Ne.symm (by assumption))).trans (by assumption) | exact (xup_ne (by assumption)).trans xup_self | exact (xup_ne (Ne.symm (by assumption))).trans xup_self) rfl ?_
  refine xr_icmp_ne C d_Se_isLike_41 44 62 rfl (by decide) (fun j4 => no (fun e => j4 (by rw [e]))) (fun j4 => ?_)
  refine xr_aload_n C d_Se_isLike_44 45 rfl rfl ?_
  refine xr_get C K_Se 4 d_Se_isLike_45 48 rfl q_321 (Or.inl rfl) rfl (by first | assumption | exact xup_self | exact (xup_ne (by assumption)).trans (by assumption) | exact (xup_ne (Ne.symm (by assumption))).trans (by assumption) | exact (xup_ne (by assumption)).trans xup_self | exact (xup_ne (Ne.symm (by assumption))).trans xup_self) rfl ?_
  refine xr_aload_n C d_Se_isLike_48 49 rfl rfl ?_
  refine xr_get C K_Se 4 d_Se_isLike_49 52 rfl q_321 (Or.inl rfl) rfl (by first | assumption | exact xup_self | exact (xup_ne (by assumption)).trans (by assumption) | exact (xup_ne (Ne.symm (by assumption))).trans (by assumption) | exact (xup_ne (by assumption)).trans xup_self | exact (xup_ne (Ne.symm (by assumption))).trans xup_self) rfl ?_
  refine xr_callS C (c_TK_compare ha2 hb2) k_TK_compare d_Se_isLike_52 55 rfl (Or.inr ⟨_, q_856⟩) s_TK_compare in_TK_compare h_TK_compare rfl ⟨Nat.le_of_ble_eq_true rfl, Nat.le_of_ble_eq_true rfl, Nat.le_of_ble_eq_true rfl⟩ (by omega) (by omega) (fun v9 X hP => ?_) (fun _ _ h => by obtain ⟨v, h, -⟩ := h; cases h)
  obtain ⟨v, h1, rfl, h2, -⟩ := hP
  cases h1
  refine xr_if_ne C d_Se_isLike_55 58 62 rfl (by decide) (fun j5 => no (fun e => j5 (h2.mpr (by rw [e])))) (fun j5 => ?_)
  refine xr_iconst (v := 1) C d_Se_isLike_58 59 rfl (by decide) ?_
  refine xr_goto C d_Se_isLike_59 63 (by decide) ?_
  exact xr_zret C d_Se_isLike_63 rfl (by omega) (by omega) ⟨by rw [if_pos (show s = t from Prod.ext j1 (Prod.ext j2 (Prod.ext j3 (Prod.ext j4 (h2.mp j5)))))], rfl⟩
set_option maxRecDepth 100000 in
set_option maxHeartbeats 4000000 in
theorem c_Se_rowBytes {l : Launch} {D : va_G} {H0 : Heap} {X : xH} {a : Nat} {I : Nat → Option Imm} {s : Ss} (hI : xIm D X I) (ha : imS I a s) : xMet l D H0 y_Se_rowBytes b_Se_rowBytes 1 (some .int) [] 0 0 0 [.ref a] X (fun o X' => o = .inl (some (.int (nI (18 + s.2.2.2.2.length)))) ∧ X' = X) := by
  obtain ⟨p, ha1, ha2, -⟩ := ha.use hI
  obtain ⟨f, hp⟩ := ha2.ar
  refine ⟨[some (.ref a)], rfl, Nat.le_of_ble_eq_true rfl, fun E hD hH hl _ C => ?_⟩
  subst hD
  subst hH
  subst hl
  refine xr_bipush (v := 18) C d_Se_rowBytes_0 2 rfl (by decide) ?_
  refine xr_aload_n C d_Se_rowBytes_2 3 rfl rfl ?_
  refine xr_get C K_Se 4 d_Se_rowBytes_3 6 rfl q_321 (Or.inl rfl) rfl (by first | assumption | exact xup_self | exact (xup_ne (by assumption)).trans (by assumption) | exact (xup_ne (Ne.symm (by assumption))).trans (by assumption) | exact (xup_ne (by assumption)).trans xup_self | exact (xup_ne (Ne.symm (by assumption))).trans xup_self) rfl ?_
  refine xr_alen (t0 := 0) C rfl d_Se_rowBytes_6 7 rfl hp ?_
  refine xr_iadd C d_Se_rowBytes_7 8 rfl ?_
  refine xr_toi (show _ = nI (18 + s.2.2.2.2.length) from nI_add 18 _) ?_
  exact xr_iret C d_Se_rowBytes_8 (by omega) (by omega) ⟨rfl, rfl⟩
/-- the row of a session, of an entry -/
def tellS (s : Ss) : List Int32 := num s.1 4 ++ (num s.2.1 4 ++ (num s.2.2.1 4 ++ (num s.2.2.2.1 4 ++ (num (nI s.2.2.2.2.length) 2 ++ s.2.2.2.2))))
def tellE (e : Es) : List Int32 := num (nI e.1.length) 1 ++ (num (nI e.2.length) 2 ++ (e.1 ++ e.2))
theorem tellS_len {s : Ss} : (tellS s).length = 18 + s.2.2.2.2.length := by
  unfold tellS
  simp only [List.length_append, num_len]
  omega
theorem tellE_len {e : Es} : (tellE e).length = 3 + e.1.length + e.2.length := by
  unfold tellE
  simp only [List.length_append, num_len]
  omega
set_option maxRecDepth 100000 in
set_option maxHeartbeats 4000000 in
theorem c_Se_tell {l : Launch} {D : va_G} {H0 : Heap} {X : xH} {a r b cap d : Nat} {I : Nat → Option Imm} {s : Ss} {bs : List Int32} (hI : xIm D X I) (ha : imS I a s) (hR : xRow D X r b cap bs) (hb : I b = none) (hd : isR cap (bs.length + (18 + s.2.2.2.2.length)) d) (hd2 : d ≤ 32767) : xMet l D H0 y_Se_tell b_Se_tell 2 none [] 3 (d - cap) (2 * (d - cap)) [.ref a, .ref r] X (fun o X' => o = .inl none ∧ xAdd D X X' r b d (bs ++ tellS s)) := by
  obtain ⟨p, ha1, ha2, hp⟩ := ha.use hI
  have hr := hR.nob hI
  have hcd : cap ≤ cap := Nat.le_refl _
  have hT := hd
  have hA : xAdd D X X r b cap bs := ⟨b, hR, xFr.rf, Or.inl rfl⟩
  have hln := ha2.len
  refine ⟨[some (.ref a), some (.ref r)], rfl, Nat.le_of_ble_eq_true rfl, fun E hD hH hl _ C => ?_⟩
  subst hD
  subst hH
  subst hl
  refine xG.wide (c2 := cap - cap) (s2 := 2 * (cap - cap)) (by omega) (by omega) ?_
  obtain ⟨b1, h4, h5, h6⟩ := hA
  have hr1 := h4.at
  have hcp := h4.cap
  obtain ⟨hI1, -⟩ := xAdd.im ⟨b1, h4, h5, h6⟩ hI hr hb
  obtain ⟨p1, k1, k2, k3⟩ := ha.use hI1
  obtain ⟨f1, k4⟩ := k2.ar
  obtain ⟨d1, g1, g2, g3, g4⟩ := hT.step (n := (bs).length + 4) (by first | omega | (simp only [List.length_append, num_len]; omega)) hcp.1
  refine xr_aload_n C d_Se_tell_0 1 rfl rfl ?_
  refine xr_aload_n C d_Se_tell_1 2 rfl rfl ?_
  refine xr_get C K_Se 0 d_Se_tell_2 5 rfl q_311 (Or.inl rfl) rfl (by first | assumption | exact xup_self | exact (xup_ne (by assumption)).trans (by assumption) | exact (xup_ne (Ne.symm (by assumption))).trans (by assumption) | exact (xup_ne (by assumption)).trans xup_self | exact (xup_ne (Ne.symm (by assumption))).trans xup_self) rfl ?_
  refine xr_iconst (v := 4) C d_Se_tell_5 6 rfl (by decide) ?_
  refine xr_callV C (c_Ro_addNumber (v := s.1) (n := 4) h4 (by omega) g1 (by omega)) k_Ro_addNumber d_Se_tell_6 9 rfl (by first | assumption | exact xup_self | exact (xup_ne (by assumption)).trans (by assumption) | exact (xup_ne (Ne.symm (by assumption))).trans (by assumption) | exact (xup_ne (by assumption)).trans xup_self | exact (xup_ne (Ne.symm (by assumption))).trans xup_self) rfl (Or.inl q_828) v_Ro_addNumber e_Ro_addNumber h_Ro_addNumber rfl ⟨Nat.le_of_ble_eq_true rfl, Nat.le_of_ble_eq_true rfl, Nat.le_of_ble_eq_true rfl⟩ (by omega) (by omega) (fun v9 X' hP => ?_) (fun _ _ h => absurd h.1 (by simp))
  obtain ⟨e1, e2⟩ := hP
  cases e1
  replace hA := xAdd.then h5 h6 e2
  replace hT := g2
  refine xG.wide (c2 := d1 - cap) (s2 := 2 * (d1 - cap)) (by omega) (by omega) ?_
  replace hcd : cap ≤ d1 := by omega
  clear g1 g2 g3 h4 h5 h6 hr1 hcp e2
  clear hI1 k1 k2 k3 k4
  obtain ⟨b1, h4, h5, h6⟩ := hA
  have hr1 := h4.at
  have hcp := h4.cap
  obtain ⟨hI1, -⟩ := xAdd.im ⟨b1, h4, h5, h6⟩ hI hr hb
  obtain ⟨p1, k1, k2, k3⟩ := ha.use hI1
  obtain ⟨f1, k4⟩ := k2.ar
  obtain ⟨d1, g1, g2, g3, g4⟩ := hT.step (n := (bs ++ num s.1 4).length + 4) (by first | omega | (simp only [List.length_append, num_len]; omega)) hcp.1
  refine xr_aload_n C d_Se_tell_9 10 rfl rfl ?_
  refine xr_aload_n C d_Se_tell_10 11 rfl rfl ?_
  refine xr_get C K_Se 1 d_Se_tell_11 14 rfl q_314 (Or.inl rfl) rfl (by first | assumption | exact xup_self | exact (xup_ne (by assumption)).trans (by assumption) | exact (xup_ne (Ne.symm (by assumption))).trans (by assumption) | exact (xup_ne (by assumption)).trans xup_self | exact (xup_ne (Ne.symm (by assumption))).trans xup_self) rfl ?_
  refine xr_iconst (v := 4) C d_Se_tell_14 15 rfl (by decide) ?_
  refine xr_callV C (c_Ro_addNumber (v := s.2.1) (n := 4) h4 (by omega) g1 (by omega)) k_Ro_addNumber d_Se_tell_15 18 rfl (by first | assumption | exact xup_self | exact (xup_ne (by assumption)).trans (by assumption) | exact (xup_ne (Ne.symm (by assumption))).trans (by assumption) | exact (xup_ne (by assumption)).trans xup_self | exact (xup_ne (Ne.symm (by assumption))).trans xup_self) rfl (Or.inl q_828) v_Ro_addNumber e_Ro_addNumber h_Ro_addNumber rfl ⟨Nat.le_of_ble_eq_true rfl, Nat.le_of_ble_eq_true rfl, Nat.le_of_ble_eq_true rfl⟩ (by omega) (by omega) (fun v9 X' hP => ?_) (fun _ _ h => absurd h.1 (by simp))
  obtain ⟨e1, e2⟩ := hP
  cases e1
  replace hA := xAdd.then h5 h6 e2
  replace hT := g2
  refine xG.wide (c2 := d1 - cap) (s2 := 2 * (d1 - cap)) (by omega) (by omega) ?_
  replace hcd : cap ≤ d1 := by omega
  clear g1 g2 g3 h4 h5 h6 hr1 hcp e2
  clear hI1 k1 k2 k3 k4
  obtain ⟨b1, h4, h5, h6⟩ := hA
  have hr1 := h4.at
  have hcp := h4.cap
  obtain ⟨hI1, -⟩ := xAdd.im ⟨b1, h4, h5, h6⟩ hI hr hb
  obtain ⟨p1, k1, k2, k3⟩ := ha.use hI1
  obtain ⟨f1, k4⟩ := k2.ar
  obtain ⟨d1, g1, g2, g3, g4⟩ := hT.step (n := (bs ++ num s.1 4 ++ num s.2.1 4).length + 4) (by first | omega | (simp only [List.length_append, num_len]; omega)) hcp.1
  refine xr_aload_n C d_Se_tell_18 19 rfl rfl ?_
  refine xr_aload_n C d_Se_tell_19 20 rfl rfl ?_
  refine xr_get C K_Se 2 d_Se_tell_20 23 rfl q_317 (Or.inl rfl) rfl (by first | assumption | exact xup_self | exact (xup_ne (by assumption)).trans (by assumption) | exact (xup_ne (Ne.symm (by assumption))).trans (by assumption) | exact (xup_ne (by assumption)).trans xup_self | exact (xup_ne (Ne.symm (by assumption))).trans xup_self) rfl ?_
  refine xr_iconst (v := 4) C d_Se_tell_23 24 rfl (by decide) ?_
  refine xr_callV C (c_Ro_addNumber (v := s.2.2.1) (n := 4) h4 (by omega) g1 (by omega)) k_Ro_addNumber d_Se_tell_24 27 rfl (by first | assumption | exact xup_self | exact (xup_ne (by assumption)).trans (by assumption) | exact (xup_ne (Ne.symm (by assumption))).trans (by assumption) | exact (xup_ne (by assumption)).trans xup_self | exact (xup_ne (Ne.symm (by assumption))).trans xup_self) rfl (Or.inl q_828) v_Ro_addNumber e_Ro_addNumber h_Ro_addNumber rfl ⟨Nat.le_of_ble_eq_true rfl, Nat.le_of_ble_eq_true rfl, Nat.le_of_ble_eq_true rfl⟩ (by omega) (by omega) (fun v9 X' hP => ?_) (fun _ _ h => absurd h.1 (by simp))
  obtain ⟨e1, e2⟩ := hP
  cases e1
  replace hA := xAdd.then h5 h6 e2
  replace hT := g2
  refine xG.wide (c2 := d1 - cap) (s2 := 2 * (d1 - cap)) (by omega) (by omega) ?_
  replace hcd : cap ≤ d1 := by omega
  clear g1 g2 g3 h4 h5 h6 hr1 hcp e2
  clear hI1 k1 k2 k3 k4
  obtain ⟨b1, h4, h5, h6⟩ := hA
  have hr1 := h4.at
  have hcp := h4.cap
  obtain ⟨hI1, -⟩ := xAdd.im ⟨b1, h4, h5, h6⟩ hI hr hb
  obtain ⟨p1, k1, k2, k3⟩ := ha.use hI1
  obtain ⟨f1, k4⟩ := k2.ar
  obtain ⟨d1, g1, g2, g3, g4⟩ := hT.step (n := (bs ++ num s.1 4 ++ num s.2.1 4 ++ num s.2.2.1 4).length + 4) (by first | omega | (simp only [List.length_append, num_len]; omega)) hcp.1
  refine xr_aload_n C d_Se_tell_27 28 rfl rfl ?_
  refine xr_aload_n C d_Se_tell_28 29 rfl rfl ?_
  refine xr_get C K_Se 3 d_Se_tell_29 32 rfl q_319 (Or.inl rfl) rfl (by first | assumption | exact xup_self | exact (xup_ne (by assumption)).trans (by assumption) | exact (xup_ne (Ne.symm (by assumption))).trans (by assumption) | exact (xup_ne (by assumption)).trans xup_self | exact (xup_ne (Ne.symm (by assumption))).trans xup_self) rfl ?_
  refine xr_iconst (v := 4) C d_Se_tell_32 33 rfl (by decide) ?_
  refine xr_callV C (c_Ro_addNumber (v := s.2.2.2.1) (n := 4) h4 (by omega) g1 (by omega)) k_Ro_addNumber d_Se_tell_33 36 rfl (by first | assumption | exact xup_self | exact (xup_ne (by assumption)).trans (by assumption) | exact (xup_ne (Ne.symm (by assumption))).trans (by assumption) | exact (xup_ne (by assumption)).trans xup_self | exact (xup_ne (Ne.symm (by assumption))).trans xup_self) rfl (Or.inl q_828) v_Ro_addNumber e_Ro_addNumber h_Ro_addNumber rfl ⟨Nat.le_of_ble_eq_true rfl, Nat.le_of_ble_eq_true rfl, Nat.le_of_ble_eq_true rfl⟩ (by omega) (by omega) (fun v9 X' hP => ?_) (fun _ _ h => absurd h.1 (by simp))
  obtain ⟨e1, e2⟩ := hP
  cases e1
  replace hA := xAdd.then h5 h6 e2
  replace hT := g2
  refine xG.wide (c2 := d1 - cap) (s2 := 2 * (d1 - cap)) (by omega) (by omega) ?_
  replace hcd : cap ≤ d1 := by omega
  clear g1 g2 g3 h4 h5 h6 hr1 hcp e2
  clear hI1 k1 k2 k3 k4
  obtain ⟨b1, h4, h5, h6⟩ := hA
  have hr1 := h4.at
  have hcp := h4.cap
  obtain ⟨hI1, -⟩ := xAdd.im ⟨b1, h4, h5, h6⟩ hI hr hb
  obtain ⟨p1, k1, k2, k3⟩ := ha.use hI1
  obtain ⟨f1, k4⟩ := k2.ar
  obtain ⟨d1, g1, g2, g3, g4⟩ := hT.step (n := (bs ++ num s.1 4 ++ num s.2.1 4 ++ num s.2.2.1 4 ++ num s.2.2.2.1 4).length + 2) (by first | omega | (simp only [List.length_append, num_len]; omega)) hcp.1
  refine xr_aload_n C d_Se_tell_36 37 rfl rfl ?_
  refine xr_aload_n C d_Se_tell_37 38 rfl rfl ?_
  refine xr_get C K_Se 4 d_Se_tell_38 41 rfl q_321 (Or.inl rfl) rfl (by first | assumption | exact xup_self | exact (xup_ne (by assumption)).trans (by assumption) | exact (xup_ne (Ne.symm (by assumption))).trans (by assumption) | exact (xup_ne (by assumption)).trans xup_self | exact (xup_ne (Ne.symm (by assumption))).trans xup_self) rfl ?_
  refine xr_alen (t0 := 0) C rfl d_Se_tell_41 42 rfl k4 ?_
  refine xr_iconst (v := 2) C d_Se_tell_42 43 rfl (by decide) ?_
  refine xr_callV C (c_Ro_addNumber (v := (nI s.2.2.2.2.length)) (n := 2) h4 (by omega) g1 (by omega)) k_Ro_addNumber d_Se_tell_43 46 rfl (by first | assumption | exact xup_self | exact (xup_ne (by assumption)).trans (by assumption) | exact (xup_ne (Ne.symm (by assumption))).trans (by assumption) | exact (xup_ne (by assumption)).trans xup_self | exact (xup_ne (Ne.symm (by assumption))).trans xup_self) rfl (Or.inl q_828) v_Ro_addNumber e_Ro_addNumber h_Ro_addNumber rfl ⟨Nat.le_of_ble_eq_true rfl, Nat.le_of_ble_eq_true rfl, Nat.le_of_ble_eq_true rfl⟩ (by omega) (by omega) (fun v9 X' hP => ?_) (fun _ _ h => absurd h.1 (by simp))
  obtain ⟨e1, e2⟩ := hP
  cases e1
  replace hA := xAdd.then h5 h6 e2
  replace hT := g2
  refine xG.wide (c2 := d1 - cap) (s2 := 2 * (d1 - cap)) (by omega) (by omega) ?_
  replace hcd : cap ≤ d1 := by omega
  clear g1 g2 g3 h4 h5 h6 hr1 hcp e2
  clear hI1 k1 k2 k3 k4
  obtain ⟨b1, h4, h5, h6⟩ := hA
  have hr1 := h4.at
  have hcp := h4.cap
  obtain ⟨hI1, b2, k5, k6⟩ := xAdd.im ⟨b1, h4, h5, h6⟩ hI hr hb
  obtain ⟨p1, k1, k2, k3⟩ := ha.use hI1
  have k7 : p1 ≠ b1 := by
    intro e
    rw [e, show I b1 = none from h6.elim (fun e => by rw [e]; exact hb) (fun e => hI.non e)] at k3
    cases k3
  obtain ⟨d1, g1, g2, g3, g4⟩ := hT.step (n := (bs ++ num s.1 4 ++ num s.2.1 4 ++ num s.2.2.1 4 ++ num s.2.2.2.1 4 ++ num (nI s.2.2.2.2.length) 2).length + s.2.2.2.2.length) (by first | omega | (simp only [List.length_append, num_len]; omega)) hcp.1
  refine xr_aload_n C d_Se_tell_46 47 rfl rfl ?_
  refine xr_aload_n C d_Se_tell_47 48 rfl rfl ?_
  refine xr_get C K_Se 4 d_Se_tell_48 51 rfl q_321 (Or.inl rfl) rfl (by first | assumption | exact xup_self | exact (xup_ne (by assumption)).trans (by assumption) | exact (xup_ne (Ne.symm (by assumption))).trans (by assumption) | exact (xup_ne (by assumption)).trans xup_self | exact (xup_ne (Ne.symm (by assumption))).trans xup_self) rfl ?_
  refine xr_callV C (c_Ro_addAll h4 k2 k7 g1 (by omega)) k_Ro_addAll d_Se_tell_51 54 rfl (by first | assumption | exact xup_self | exact (xup_ne (by assumption)).trans (by assumption) | exact (xup_ne (Ne.symm (by assumption))).trans (by assumption) | exact (xup_ne (by assumption)).trans xup_self | exact (xup_ne (Ne.symm (by assumption))).trans xup_self) rfl (Or.inl q_829) v_Ro_addAll e_Ro_addAll h_Ro_addAll rfl ⟨Nat.le_of_ble_eq_true rfl, Nat.le_of_ble_eq_true rfl, Nat.le_of_ble_eq_true rfl⟩ (by omega) (by omega) (fun v9 X' hP => ?_) (fun _ _ h => absurd h.1 (by simp))
  obtain ⟨e1, e2⟩ := hP
  cases e1
  replace hA := xAdd.then h5 h6 e2
  replace hT := g2
  refine xG.wide (c2 := d1 - cap) (s2 := 2 * (d1 - cap)) (by omega) (by omega) ?_
  replace hcd : cap ≤ d1 := by omega
  clear g1 g2 g3 h4 h5 h6 hr1 hcp e2
  have e9 : d1 = d := by
    obtain ⟨b1, h4, h5, h6⟩ := hA
    have := h4.cap
    simp only [List.length_append, num_len] at this
    exact (hT.fit (by omega)).symm
  subst e9
  refine xr_vret C d_Se_tell_54 (by omega) (by omega) ⟨rfl, ?_⟩
  rw [show bs ++ tellS s = bs ++ num s.1 4 ++ num s.2.1 4 ++ num s.2.2.1 4 ++ num s.2.2.2.1 4 ++ num (nI s.2.2.2.2.length) 2 ++ s.2.2.2.2 by unfold tellS; simp only [List.append_assoc]]
  exact hA
set_option maxRecDepth 100000 in
set_option maxHeartbeats 4000000 in
theorem c_En_init {l : Launch} {D : va_G} {H0 : Heap} {X : xH} {a k v : Nat} {w0 w1 : Value} (ha : X a = some (.inr (5, [w0, w1]))) : xMet l D H0 y_En_init b_En_init 3 none [] 0 0 0 [.ref a, .ref k, .ref v] X (fun o X' => o = .inl none ∧ X' = xup X a (.inr (5, [.ref k, .ref v]))) := by
  refine ⟨[some (.ref a), some (.ref k), some (.ref v)], rfl, Nat.le_of_ble_eq_true rfl, fun E hD hH hl _ C => ?_⟩
  subst hD
  subst hH
  subst hl
  refine xr_aload_n C d_En_init_0 1 rfl rfl ?_
  refine xr_objInit C d_En_init_1 4 rfl q_709 w_oi w_oc (Nat.le_of_ble_eq_true rfl) ?_
  refine xr_aload_n C d_En_init_4 5 rfl rfl ?_
  refine xr_aload_n C d_En_init_5 6 rfl rfl ?_
  refine xr_putF C K_En 0 d_En_init_6 9 rfl q_710 (Or.inl rfl) rfl rfl rfl rfl rfl rfl (by first | assumption | exact xup_self | exact (xup_ne (by assumption)).trans (by assumption) | exact (xup_ne (Ne.symm (by assumption))).trans (by assumption) | exact (xup_ne (by assumption)).trans xup_self | exact (xup_ne (Ne.symm (by assumption))).trans xup_self) rfl rfl ?_
  refine xr_aload_n C d_En_init_9 10 rfl rfl ?_
  refine xr_aload_n C d_En_init_10 11 rfl rfl ?_
  refine xr_putF C K_En 1 d_En_init_11 14 rfl q_713 (Or.inl rfl) rfl rfl rfl rfl rfl rfl (by first | assumption | exact xup_self | exact (xup_ne (by assumption)).trans (by assumption) | exact (xup_ne (Ne.symm (by assumption))).trans (by assumption) | exact (xup_ne (by assumption)).trans xup_self | exact (xup_ne (Ne.symm (by assumption))).trans xup_self) rfl rfl ?_
  exact xr_vret C d_En_init_14 (by omega) (by omega) ⟨rfl, by simp only [xup_up]; rfl⟩
def un (e : Es) : Nat := (e.1.length + e.2.length + 15) / 16
set_option maxRecDepth 100000 in
set_option maxHeartbeats 4000000 in
theorem c_En_units {l : Launch} {D : va_G} {H0 : Heap} {X : xH} {a : Nat} {I : Nat → Option Imm} {e : Es} (hI : xIm D X I) (ha : imE I a e) : xMet l D H0 y_En_units b_En_units 1 (some .int) [] 0 0 0 [.ref a] X (fun o X' => o = .inl (some (.int (nI (un e)))) ∧ X' = X) := by
  obtain ⟨p, q, ha1, ha2, ha3, -⟩ := ha.use hI
  obtain ⟨f, hp⟩ := ha2.ar
  obtain ⟨g, hq⟩ := ha3.ar
  have l1 := ha2.len
  have l2 := ha3.len
  refine ⟨[some (.ref a)], rfl, Nat.le_of_ble_eq_true rfl, fun E hD hH hl _ C => ?_⟩
  subst hD
  subst hH
  subst hl
  refine xr_aload_n C d_En_units_0 1 rfl rfl ?_
  refine xr_get C K_En 0 d_En_units_1 4 rfl q_710 (Or.inl rfl) rfl (by first | assumption | exact xup_self | exact (xup_ne (by assumption)).trans (by assumption) | exact (xup_ne (Ne.symm (by assumption))).trans (by assumption) | exact (xup_ne (by assumption)).trans xup_self | exact (xup_ne (Ne.symm (by assumption))).trans xup_self) rfl ?_
  refine xr_alen (t0 := 0) C rfl d_En_units_4 5 rfl hp ?_
  refine xr_aload_n C d_En_units_5 6 rfl rfl ?_
  refine xr_get C K_En 1 d_En_units_6 9 rfl q_713 (Or.inl rfl) rfl (by first | assumption | exact xup_self | exact (xup_ne (by assumption)).trans (by assumption) | exact (xup_ne (Ne.symm (by assumption))).trans (by assumption) | exact (xup_ne (by assumption)).trans xup_self | exact (xup_ne (Ne.symm (by assumption))).trans xup_self) rfl ?_
  refine xr_alen (t0 := 0) C rfl d_En_units_9 10 rfl hq ?_
  refine xr_iadd C d_En_units_10 11 rfl ?_
  refine xr_toi (show _ = nI (e.1.length + e.2.length) from nI_add _ _) ?_
  refine xr_bipush (v := 16) C d_En_units_11 13 rfl (by decide) ?_
  refine xr_iadd C d_En_units_13 14 rfl ?_
  refine xr_toi (show _ = nI (e.1.length + e.2.length + 16) from nI_add _ 16) ?_
  refine xr_iconst (v := 1) C d_En_units_14 15 rfl (by decide) ?_
  refine xr_isub C d_En_units_15 16 rfl ?_
  refine xr_toi (show _ = nI (e.1.length + e.2.length + 15) from nI_pred _) ?_
  refine xr_bipush (v := 16) C d_En_units_16 18 rfl (by decide) ?_
  refine xr_idiv C d_En_units_18 19 rfl (by decide) ?_
  refine xr_toi (show _ = nI (un e) from pk_div (d := 16) (by omega) (by omega) (by omega)) ?_
  exact xr_iret C d_En_units_19 (by omega) (by omega) ⟨rfl, rfl⟩
set_option maxRecDepth 100000 in
set_option maxHeartbeats 4000000 in
theorem c_En_rowBytes {l : Launch} {D : va_G} {H0 : Heap} {X : xH} {a : Nat} {I : Nat → Option Imm} {e : Es} (hI : xIm D X I) (ha : imE I a e) : xMet l D H0 y_En_rowBytes b_En_rowBytes 1 (some .int) [] 0 0 0 [.ref a] X (fun o X' => o = .inl (some (.int (nI (3 + e.1.length + e.2.length)))) ∧ X' = X) := by
  obtain ⟨p, q, ha1, ha2, ha3, -⟩ := ha.use hI
  obtain ⟨f, hp⟩ := ha2.ar
  obtain ⟨g, hq⟩ := ha3.ar
  have l1 := ha2.len
  have l2 := ha3.len
  refine ⟨[some (.ref a)], rfl, Nat.le_of_ble_eq_true rfl, fun E hD hH hl _ C => ?_⟩
  subst hD
  subst hH
  subst hl
  refine xr_iconst (v := 3) C d_En_rowBytes_0 1 rfl (by decide) ?_
  refine xr_aload_n C d_En_rowBytes_1 2 rfl rfl ?_
  refine xr_get C K_En 0 d_En_rowBytes_2 5 rfl q_710 (Or.inl rfl) rfl (by first | assumption | exact xup_self | exact (xup_ne (by assumption)).trans (by assumption) | exact (xup_ne (Ne.symm (by assumption))).trans (by assumption) | exact (xup_ne (by assumption)).trans xup_self | exact (xup_ne (Ne.symm (by assumption))).trans xup_self) rfl ?_
  refine xr_alen (t0 := 0) C rfl d_En_rowBytes_5 6 rfl hp ?_
  refine xr_iadd C d_En_rowBytes_6 7 rfl ?_
  refine xr_toi (show _ = nI (3 + e.1.length) from nI_add 3 _) ?_
  refine xr_aload_n C d_En_rowBytes_7 8 rfl rfl ?_
  refine xr_get C K_En 1 d_En_rowBytes_8 11 rfl q_713 (Or.inl rfl) rfl (by first | assumption | exact xup_self | exact (xup_ne (by assumption)).trans (by assumption) | exact (xup_ne (Ne.symm (by assumption))).trans (by assumption) | exact (xup_ne (by assumption)).trans xup_self | exact (xup_ne (Ne.symm (by assumption))).trans xup_self) rfl ?_
  refine xr_alen (t0 := 0) C rfl d_En_rowBytes_11 12 rfl hq ?_
  refine xr_iadd C d_En_rowBytes_12 13 rfl ?_
  refine xr_toi (show _ = nI (3 + e.1.length + e.2.length) from nI_add _ _) ?_
  exact xr_iret C d_En_rowBytes_13 (by omega) (by omega) ⟨rfl, rfl⟩
set_option maxRecDepth 100000 in
set_option maxHeartbeats 4000000 in
theorem c_En_isLike {l : Launch} {D : va_G} {H0 : Heap} {X : xH} {a b : Nat} {I : Nat → Option Imm} {s t : Es} (hI : xIm D X I) (ha : imE I a s) (hb : imE I b t) : xMet l D H0 y_En_isLike b_En_isLike 2 (some .boolean) [] 2 0 0 [.ref a, .ref b] X (fun o X' => o = .inl (some (.int (if s = t then 1 else 0))) ∧ X' = X) := by
  obtain ⟨p, q, ha1, ha2, ha3, -⟩ := ha.use hI
  obtain ⟨p', q', hb1, hb2, hb3, -⟩ := hb.use hI
  refine ⟨[some (.ref a), some (.ref b)], rfl, Nat.le_of_ble_eq_true rfl, fun E hD hH hl _ C => ?_⟩
  subst hD
  subst hH
  subst hl
  have no : s ≠ t → xG E X 0 0 32 [some (.ref a), some (.ref b)] [] := by
    intro h
    refine xr_iconst (v := 0) C d_En_isLike_32 33 rfl (by decide) ?_
    exact xr_zret C d_En_isLike_33 rfl (by omega) (by omega) ⟨by rw [if_neg h], rfl⟩
  refine xr_aload_n C d_En_isLike_0 1 rfl rfl ?_
  refine xr_get C K_En 0 d_En_isLike_1 4 rfl q_710 (Or.inl rfl) rfl (by first | assumption | exact xup_self | exact (xup_ne (by assumption)).trans (by assumption) | exact (xup_ne (Ne.symm (by assumption))).trans (by assumption) | exact (xup_ne (by assumption)).trans xup_self | exact (xup_ne (Ne.symm (by assumption))).trans xup_self) rfl ?_
  refine xr_aload_n C d_En_isLike_4 5 rfl rfl ?_
  refine xr_get C K_En 0 d_En_isLike_5 8 rfl q_710 (Or.inl rfl) rfl (by first | assumption | exact xup_self | exact (xup_ne (by assumption)).trans (by assumption) | exact (xup_ne (Ne.symm (by assumption))).trans (by assumption) | exact (xup_ne (by assumption)).trans xup_self | exact (xup_ne (Ne.symm (by assumption))).trans xup_self) rfl ?_
  refine xr_callS C (c_TK_compare ha2 hb2) k_TK_compare d_En_isLike_8 11 rfl (Or.inr ⟨_, q_865⟩) s_TK_compare in_TK_compare h_TK_compare rfl ⟨Nat.le_of_ble_eq_true rfl, Nat.le_of_ble_eq_true rfl, Nat.le_of_ble_eq_true rfl⟩ (by omega) (by omega) (fun v9 X hP => ?_) (fun _ _ h => by obtain ⟨v, h, -⟩ := h; cases h)
  obtain ⟨v, h1, rfl, h2, -⟩ := hP
  cases h1
  refine xr_if_ne C d_En_isLike_11 14 32 rfl (by decide) (fun j5 => no (fun e => j5 (h2.mpr (by rw [e])))) (fun j5 => ?_)
  refine xr_aload_n C d_En_isLike_14 15 rfl rfl ?_
  refine xr_get C K_En 1 d_En_isLike_15 18 rfl q_713 (Or.inl rfl) rfl (by first | assumption | exact xup_self | exact (xup_ne (by assumption)).trans (by assumption) | exact (xup_ne (Ne.symm (by assumption))).trans (by assumption) | exact (xup_ne (by assumption)).trans xup_self | exact (xup_ne (Ne.symm (by assumption))).trans xup_self) rfl ?_
  refine xr_aload_n C d_En_isLike_18 19 rfl rfl ?_
  refine xr_get C K_En 1 d_En_isLike_19 22 rfl q_713 (Or.inl rfl) rfl (by first | assumption | exact xup_self | exact (xup_ne (by assumption)).trans (by assumption) | exact (xup_ne (Ne.symm (by assumption))).trans (by assumption) | exact (xup_ne (by assumption)).trans xup_self | exact (xup_ne (Ne.symm (by assumption))).trans xup_self) rfl ?_
  refine xr_callS C (c_TK_compare ha3 hb3) k_TK_compare d_En_isLike_22 25 rfl (Or.inr ⟨_, q_865⟩) s_TK_compare in_TK_compare h_TK_compare rfl ⟨Nat.le_of_ble_eq_true rfl, Nat.le_of_ble_eq_true rfl, Nat.le_of_ble_eq_true rfl⟩ (by omega) (by omega) (fun v9 X hP => ?_) (fun _ _ h => by obtain ⟨v, h, -⟩ := h; cases h)
  obtain ⟨v', h1, rfl, h3, -⟩ := hP
  cases h1
  refine xr_if_ne C d_En_isLike_25 28 32 rfl (by decide) (fun j6 => no (fun e => j6 (h3.mpr (by rw [e])))) (fun j6 => ?_)
  refine xr_iconst (v := 1) C d_En_isLike_28 29 rfl (by decide) ?_
  refine xr_goto C d_En_isLike_29 33 (by decide) ?_
  exact xr_zret C d_En_isLike_33 rfl (by omega) (by omega) ⟨by rw [if_pos (show s = t from Prod.ext (h2.mp j5) (h3.mp j6))], rfl⟩
set_option maxRecDepth 100000 in
set_option maxHeartbeats 4000000 in
theorem c_En_tell {l : Launch} {D : va_G} {H0 : Heap} {X : xH} {a r b cap d : Nat} {I : Nat → Option Imm} {e : Es} {bs : List Int32} (hI : xIm D X I) (ha : imE I a e) (hR : xRow D X r b cap bs) (hb : I b = none) (hd : isR cap (bs.length + (3 + e.1.length + e.2.length)) d) (hd2 : d ≤ 32767) : xMet l D H0 y_En_tell b_En_tell 2 none [] 3 (d - cap) (2 * (d - cap)) [.ref a, .ref r] X (fun o X' => o = .inl none ∧ xAdd D X X' r b d (bs ++ tellE e)) := by
  obtain ⟨p, q, ha1, ha2, ha3, hp, hq⟩ := ha.use hI
  have hr := hR.nob hI
  have hcd : cap ≤ cap := Nat.le_refl _
  have hT := hd
  have hA : xAdd D X X r b cap bs := ⟨b, hR, xFr.rf, Or.inl rfl⟩
  have hln := ha2.len
  have hln2 := ha3.len
  refine ⟨[some (.ref a), some (.ref r)], rfl, Nat.le_of_ble_eq_true rfl, fun E hD hH hl _ C => ?_⟩
  subst hD
  subst hH
  subst hl
  refine xG.wide (c2 := cap - cap) (s2 := 2 * (cap - cap)) (by omega) (by omega) ?_
  obtain ⟨b1, h4, h5, h6⟩ := hA
  have hr1 := h4.at
  have hcp := h4.cap
  obtain ⟨hI1, -⟩ := xAdd.im ⟨b1, h4, h5, h6⟩ hI hr hb
  obtain ⟨p1, q1, k1, k2, k3, -⟩ := ha.use hI1
  obtain ⟨f1, k5⟩ := k2.ar
  obtain ⟨f2, k6⟩ := k3.ar
  obtain ⟨d1, g1, g2, g3, g4⟩ := hT.step (n := (bs).length + 1) (by first | omega | (simp only [List.length_append, num_len]; omega)) hcp.1
  refine xr_aload_n C d_En_tell_0 1 rfl rfl ?_
  refine xr_aload_n C d_En_tell_1 2 rfl rfl ?_
  refine xr_get C K_En 0 d_En_tell_2 5 rfl q_710 (Or.inl rfl) rfl (by first | assumption | exact xup_self | exact (xup_ne (by assumption)).trans (by assumption) | exact (xup_ne (Ne.symm (by assumption))).trans (by assumption) | exact (xup_ne (by assumption)).trans xup_self | exact (xup_ne (Ne.symm (by assumption))).trans xup_self) rfl ?_
  refine xr_alen (t0 := 0) C rfl d_En_tell_5 6 rfl k5 ?_
  refine xr_iconst (v := 1) C d_En_tell_6 7 rfl (by decide) ?_
  refine xr_callV C (c_Ro_addNumber (v := (nI e.1.length)) (n := 1) h4 (by omega) g1 (by omega)) k_Ro_addNumber d_En_tell_7 10 rfl (by first | assumption | exact xup_self | exact (xup_ne (by assumption)).trans (by assumption) | exact (xup_ne (Ne.symm (by assumption))).trans (by assumption) | exact (xup_ne (by assumption)).trans xup_self | exact (xup_ne (Ne.symm (by assumption))).trans xup_self) rfl (Or.inl q_835) v_Ro_addNumber e_Ro_addNumber h_Ro_addNumber rfl ⟨Nat.le_of_ble_eq_true rfl, Nat.le_of_ble_eq_true rfl, Nat.le_of_ble_eq_true rfl⟩ (by omega) (by omega) (fun v9 X' hP => ?_) (fun _ _ h => absurd h.1 (by simp))
  obtain ⟨e1, e2⟩ := hP
  cases e1
  replace hA := xAdd.then h5 h6 e2
  replace hT := g2
  refine xG.wide (c2 := d1 - cap) (s2 := 2 * (d1 - cap)) (by omega) (by omega) ?_
  replace hcd : cap ≤ d1 := by omega
  clear g1 g2 g3 h4 h5 h6 hr1 hcp e2
  clear hI1 k1 k2 k3 k5 k6
  obtain ⟨b1, h4, h5, h6⟩ := hA
  have hr1 := h4.at
  have hcp := h4.cap
  obtain ⟨hI1, -⟩ := xAdd.im ⟨b1, h4, h5, h6⟩ hI hr hb
  obtain ⟨p1, q1, k1, k2, k3, -⟩ := ha.use hI1
  obtain ⟨f1, k5⟩ := k2.ar
  obtain ⟨f2, k6⟩ := k3.ar
  obtain ⟨d1, g1, g2, g3, g4⟩ := hT.step (n := (bs ++ num (nI e.1.length) 1).length + 2) (by first | omega | (simp only [List.length_append, num_len]; omega)) hcp.1
  refine xr_aload_n C d_En_tell_10 11 rfl rfl ?_
  refine xr_aload_n C d_En_tell_11 12 rfl rfl ?_
  refine xr_get C K_En 1 d_En_tell_12 15 rfl q_713 (Or.inl rfl) rfl (by first | assumption | exact xup_self | exact (xup_ne (by assumption)).trans (by assumption) | exact (xup_ne (Ne.symm (by assumption))).trans (by assumption) | exact (xup_ne (by assumption)).trans xup_self | exact (xup_ne (Ne.symm (by assumption))).trans xup_self) rfl ?_
  refine xr_alen (t0 := 0) C rfl d_En_tell_15 16 rfl k6 ?_
  refine xr_iconst (v := 2) C d_En_tell_16 17 rfl (by decide) ?_
  refine xr_callV C (c_Ro_addNumber (v := (nI e.2.length)) (n := 2) h4 (by omega) g1 (by omega)) k_Ro_addNumber d_En_tell_17 20 rfl (by first | assumption | exact xup_self | exact (xup_ne (by assumption)).trans (by assumption) | exact (xup_ne (Ne.symm (by assumption))).trans (by assumption) | exact (xup_ne (by assumption)).trans xup_self | exact (xup_ne (Ne.symm (by assumption))).trans xup_self) rfl (Or.inl q_835) v_Ro_addNumber e_Ro_addNumber h_Ro_addNumber rfl ⟨Nat.le_of_ble_eq_true rfl, Nat.le_of_ble_eq_true rfl, Nat.le_of_ble_eq_true rfl⟩ (by omega) (by omega) (fun v9 X' hP => ?_) (fun _ _ h => absurd h.1 (by simp))
  obtain ⟨e1, e2⟩ := hP
  cases e1
  replace hA := xAdd.then h5 h6 e2
  replace hT := g2
  refine xG.wide (c2 := d1 - cap) (s2 := 2 * (d1 - cap)) (by omega) (by omega) ?_
  replace hcd : cap ≤ d1 := by omega
  clear g1 g2 g3 h4 h5 h6 hr1 hcp e2
  clear hI1 k1 k2 k3 k5 k6
  obtain ⟨b1, h4, h5, h6⟩ := hA
  have hr1 := h4.at
  have hcp := h4.cap
  obtain ⟨hI1, -⟩ := xAdd.im ⟨b1, h4, h5, h6⟩ hI hr hb
  obtain ⟨p1, q1, k1, k2, k3, k5, k6⟩ := ha.use hI1
  have k7 : p1 ≠ b1 := by
    intro e
    rw [e, show I b1 = none from h6.elim (fun e => by rw [e]; exact hb) (fun e => hI.non e)] at k5
    cases k5
  obtain ⟨d1, g1, g2, g3, g4⟩ := hT.step (n := (bs ++ num (nI e.1.length) 1 ++ num (nI e.2.length) 2).length + e.1.length) (by first | omega | (simp only [List.length_append, num_len]; omega)) hcp.1
  refine xr_aload_n C d_En_tell_20 21 rfl rfl ?_
  refine xr_aload_n C d_En_tell_21 22 rfl rfl ?_
  refine xr_get C K_En 0 d_En_tell_22 25 rfl q_710 (Or.inl rfl) rfl (by first | assumption | exact xup_self | exact (xup_ne (by assumption)).trans (by assumption) | exact (xup_ne (Ne.symm (by assumption))).trans (by assumption) | exact (xup_ne (by assumption)).trans xup_self | exact (xup_ne (Ne.symm (by assumption))).trans xup_self) rfl ?_
  refine xr_callV C (c_Ro_addAll h4 k2 k7 g1 (by omega)) k_Ro_addAll d_En_tell_25 28 rfl (by first | assumption | exact xup_self | exact (xup_ne (by assumption)).trans (by assumption) | exact (xup_ne (Ne.symm (by assumption))).trans (by assumption) | exact (xup_ne (by assumption)).trans xup_self | exact (xup_ne (Ne.symm (by assumption))).trans xup_self) rfl (Or.inl q_836) v_Ro_addAll e_Ro_addAll h_Ro_addAll rfl ⟨Nat.le_of_ble_eq_true rfl, Nat.le_of_ble_eq_true rfl, Nat.le_of_ble_eq_true rfl⟩ (by omega) (by omega) (fun v9 X' hP => ?_) (fun _ _ h => absurd h.1 (by simp))
  obtain ⟨e1, e2⟩ := hP
  cases e1
  replace hA := xAdd.then h5 h6 e2
  replace hT := g2
  refine xG.wide (c2 := d1 - cap) (s2 := 2 * (d1 - cap)) (by omega) (by omega) ?_
  replace hcd : cap ≤ d1 := by omega
  clear g1 g2 g3 h4 h5 h6 hr1 hcp e2
  clear hI1 k1 k2 k3 k5 k6 k7
  obtain ⟨b1, h4, h5, h6⟩ := hA
  have hr1 := h4.at
  have hcp := h4.cap
  obtain ⟨hI1, -⟩ := xAdd.im ⟨b1, h4, h5, h6⟩ hI hr hb
  obtain ⟨p1, q1, k1, k2, k3, k5, k6⟩ := ha.use hI1
  have k7 : q1 ≠ b1 := by
    intro e
    rw [e, show I b1 = none from h6.elim (fun e => by rw [e]; exact hb) (fun e => hI.non e)] at k6
    cases k6
  obtain ⟨d1, g1, g2, g3, g4⟩ := hT.step (n := (bs ++ num (nI e.1.length) 1 ++ num (nI e.2.length) 2 ++ e.1).length + e.2.length) (by first | omega | (simp only [List.length_append, num_len]; omega)) hcp.1
  refine xr_aload_n C d_En_tell_28 29 rfl rfl ?_
  refine xr_aload_n C d_En_tell_29 30 rfl rfl ?_
  refine xr_get C K_En 1 d_En_tell_30 33 rfl q_713 (Or.inl rfl) rfl (by first | assumption | exact xup_self | exact (xup_ne (by assumption)).trans (by assumption) | exact (xup_ne (Ne.symm (by assumption))).trans (by assumption) | exact (xup_ne (by assumption)).trans xup_self | exact (xup_ne (Ne.symm (by assumption))).trans xup_self) rfl ?_
  refine xr_callV C (c_Ro_addAll h4 k3 k7 g1 (by omega)) k_Ro_addAll d_En_tell_33 36 rfl (by first | assumption | exact xup_self | exact (xup_ne (by assumption)).trans (by assumption) | exact (xup_ne (Ne.symm (by assumption))).trans (by assumption) | exact (xup_ne (by assumption)).trans xup_self | exact (xup_ne (Ne.symm (by assumption))).trans xup_self) rfl (Or.inl q_836) v_Ro_addAll e_Ro_addAll h_Ro_addAll rfl ⟨Nat.le_of_ble_eq_true rfl, Nat.le_of_ble_eq_true rfl, Nat.le_of_ble_eq_true rfl⟩ (by omega) (by omega) (fun v9 X' hP => ?_) (fun _ _ h => absurd h.1 (by simp))
  obtain ⟨e1, e2⟩ := hP
  cases e1
  replace hA := xAdd.then h5 h6 e2
  replace hT := g2
  refine xG.wide (c2 := d1 - cap) (s2 := 2 * (d1 - cap)) (by omega) (by omega) ?_
  replace hcd : cap ≤ d1 := by omega
  clear g1 g2 g3 h4 h5 h6 hr1 hcp e2
  clear hI1 k1 k2 k3 k5 k6 k7
  have e9 : d1 = d := by
    obtain ⟨b1, h4, h5, h6⟩ := hA
    have := h4.cap
    simp only [List.length_append, num_len] at this
    exact (hT.fit (by omega)).symm
  subst e9
  refine xr_vret C d_En_tell_36 (by omega) (by omega) ⟨rfl, ?_⟩
  rw [show bs ++ tellE e = bs ++ num (nI e.1.length) 1 ++ num (nI e.2.length) 2 ++ e.1 ++ e.2 by unfold tellE; simp only [List.append_assoc]]
  exact hA
