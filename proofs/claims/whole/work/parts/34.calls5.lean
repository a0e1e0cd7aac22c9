/-! The calls: feed; a new object. -/
def fby (e : Int64) (i : Nat) : Int32 := ((e.toUInt64 >>> ((8 * nI i).toInt64.toUInt64 &&& Int64.toUInt64 63)).toInt64).toInt32.toInt8.toInt32
def fbs (e : Int64) (k : Nat) : List Int32 := (List.range k).map (fby e)
theorem fbs_succ {e : Int64} {k : Nat} : fbs e (k + 1) = fbs e k ++ [fby e k] := by
  unfold fbs
  rw [List.range_succ, List.map_append]
  rfl
theorem fbs_len {e : Int64} {k : Nat} : (fbs e k).length = k := by
  unfold fbs
  rw [List.length_map, List.length_range]
def fFeed (s : St) (e : Int64) (n : Int32) : Nat × Int32 × St :=
  if 1 ≤ n ∧ n ≤ 8 then
    if s.1.length + mIx n ≤ 300 then (0, nI (s.1.length + mIx n), (s.1 ++ fbs e (mIx n), s.2)) else (2, 0, s)
  else (1, 0, s)
/-- the tape has changed -/
theorem xOw.tape {D : va_G} {X : xH} {F V : Nat → Nat} {I : Nat → Option Imm} {i : Nat} {m o : Mc} {bs cs be ce br rc : Nat} {ts ts' res : List Int32} {n lp : Int32} {as1 as2 : List Nat} {v : va_E} (h : xOw D X F V I i m o bs cs be ce br rc ts res n lp as1 as2) (ht : xTape D (xup X (F 1) v) (F 1) ts') : xOw D (xup X (F 1) v) F V I i m o bs cs be ce br rc ts' res n lp as1 as2 := by
  obtain ⟨h1, h2, h3, h4, h5, h6, h7, h8, h9, h10, h11⟩ := h
  obtain ⟨ft, h20, h21⟩ := h2
  have hf : xFr [F 1] X (xup X (F 1) v) := xFr_up h20 (fun z => absurd z (show ¬ 300 = 0 by omega)) (by simp)
  have one : ∀ {q : Nat} {ci : Nat} {fs : List Value}, X q = some (.inr (ci, fs)) → q ∉ [F 1] := fun hq => by
    rw [List.mem_singleton]
    exact xne hq h20 (by intro h; cases h)
  have two : ∀ {q N : Nat} {c : ClassId} {p : (Nat → Int64) ⊕ (Nat → UInt32) ⊕ (Nat → UInt64) ⊕ (Nat → Option Nat)}, X q = some (.inl (c, N, .inr p)) → q ∉ [F 1] := fun hq => by
    rw [List.mem_singleton]
    exact xne hq h20 xkd
  have mk : ∀ {j : Nat} {mm : Mc} {a b c d : Nat} {x1 x2 : List Nat}, xMac D X I (F (10 + j)) (F (20 + j)) a b (F (30 + j)) (F (40 + j)) c d x1 x2 mm.1 mm.2.1 mm.2.2 → xMac D (xup X (F 1) v) I (F (10 + j)) (F (20 + j)) a b (F (30 + j)) (F (40 + j)) c d x1 x2 mm.1 mm.2.1 mm.2.2 := by
    intro j mm a b c d x1 x2 hm
    obtain ⟨ha, hL, hE, hok, hM, hll, hbb⟩ := id hm
    obtain ⟨vl, hl⟩ := hL.ob
    obtain ⟨fb, hb⟩ := hL.ar
    obtain ⟨vk, hk⟩ := hM.2.1.ob
    obtain ⟨fe, he⟩ := hM.2.1.ar
    exact hm.keepS hf (one ha) (one hl) (Or.inl (two hb)) (one hM.1) (one hk) (Or.inl (two he))
  obtain ⟨a3, a4, hB⟩ := h10
  obtain ⟨fb', hb'⟩ := hB.2.1.ar
  obtain ⟨fe', he'⟩ := hB.2.2.2.2.1.2.1.ar
  refine ⟨hf.use h1 (one h1), ht, h3, h4, h5.keep hf (one h5.at) ?_, h6, h7.keep hf (fun a ha => by rw [List.mem_singleton.mp ha]; exact h3), h8, mk h9, ⟨a3, a4, mk hB⟩, h11.new hf (Or.inl rfl) (Or.inl rfl) hb' he'⟩
  rw [List.mem_singleton]
  exact Ne.symm h4
set_option maxRecDepth 100000 in
set_option maxHeartbeats 4000000 in
theorem c_TK_feed {l : Launch} {D : va_G} {H0 : Heap} {X : xH} {F V : Nat → Nat} {I : Nat → Option Imm} {s : St} (hK : xTK D X F V I s) {e : Int64} {n : Int32} : xMet l D H0 y_TK_feed b_TK_feed 5 (some .int) [] 1 1 6 [.ref (F 0), .long e, .int n] X (fun o X' => xEnd "java/lang/IllegalArgumentException" "java/lang/IllegalStateException" ((fFeed s e n).1, (fFeed s e n).2.1) o ∧ ∃ V' I', vLe V V' ∧ imLe I I' ∧ xTK D X' F V' I' (fFeed s e n).2.2) := by
  have htk := hK.1
  have hT0 := hK.2.1.len
  obtain ⟨as1, as2, hO⟩ := hK.ow (i := 0) (by omega)
  refine ⟨[some (.ref (F 0)), some (.long e), none, some (.int n), none], rfl, Nat.le_of_ble_eq_true rfl, fun E hD hH hl _ C => ?_⟩
  subst hD
  subst hH
  subst hl
  have t11 : ¬ (1 ≤ n ∧ n ≤ 8) → xG E X 0 0 11 [some (.ref (F 0)), some (.long e), none, some (.int n), none] [] := by
    intro h
    have hf : fFeed s e n = (1, 0, s) := if_neg h
    rw [hf] at C
    exact xr_throw C rfl d_TK_feed_11 d_TK_feed_14 d_TK_feed_15 d_TK_feed_17 d_TK_feed_20 tw_IAE xs_39 (Nat.le_of_ble_eq_true rfl) (by omega) (by omega) ⟨xEnd_1, hK.same⟩
  refine xr_iload_n C d_TK_feed_0 1 rfl rfl ?_
  refine xr_iconst (v := 1) C d_TK_feed_1 2 rfl (by decide) ?_
  refine xr_icmp_lt C d_TK_feed_2 5 11 rfl (by decide) (fun h => t11 (fun q => absurd q.1 (Int32.not_le.mpr h))) (fun h2 => ?_)
  refine xr_iload_n C d_TK_feed_5 6 rfl rfl ?_
  refine xr_bipush (v := 8) C d_TK_feed_6 8 rfl (by decide) ?_
  refine xr_icmp_le C d_TK_feed_8 11 21 rfl (by decide) (fun h8 => ?_) (fun h => t11 (fun q => h q.2))
  obtain ⟨k, hk, rfl⟩ := nI_of (show ¬ n < 0 from fun h => h2 (Int32.lt_trans h (by decide)))
  have k1 : 1 ≤ k := by
    rcases Nat.lt_or_ge k 1 with h | h
    · exact absurd (nI_lt h (by omega)) h2
    · exact h
  have k8 : k ≤ 8 := (nI_leI hk (by omega)).mp h8
  have hfm : fFeed s e (nI k) = if s.1.length + k ≤ 300 then (0, nI (s.1.length + k), (s.1 ++ fbs e k, s.2)) else (2, 0, s) := by
    unfold fFeed
    rw [if_pos ⟨Int32.not_lt.mp h2, h8⟩, mIx_nI hk]
  refine xr_aload_n C d_TK_feed_21 22 rfl rfl ?_
  refine xr_get C K_TK 4 d_TK_feed_22 25 rfl q_121 (Or.inl rfl) rfl (by first | assumption | exact xup_self | exact (xup_ne (by assumption)).trans (by assumption) | exact (xup_ne (Ne.symm (by assumption))).trans (by assumption) | exact (xup_ne (by assumption)).trans xup_self | exact (xup_ne (Ne.symm (by assumption))).trans xup_self) rfl ?_
  refine xr_iload_n C d_TK_feed_25 26 rfl rfl ?_
  refine xr_iadd C d_TK_feed_26 27 rfl ?_
  refine xr_toi (show _ = nI (s.1.length + k) from nI_add _ _) ?_
  refine xr_sipush (v := 300) C d_TK_feed_27 30 rfl (by decide) ?_
  refine xr_toi (show _ = nI 300 from rfl) ?_
  refine xr_icmp_le C d_TK_feed_30 33 43 rfl (by decide) (fun h30 => ?_) (fun h30 => ?_)
  rotate_left
  · have hc : ¬ s.1.length + k ≤ 300 := fun q => h30 (nI_le q (by omega))
    rw [hfm, if_neg hc] at C
    exact xr_throw C rfl d_TK_feed_33 d_TK_feed_36 d_TK_feed_37 d_TK_feed_39 d_TK_feed_42 tw_ISE xs_46 (Nat.le_of_ble_eq_true rfl) (by omega) (by omega) ⟨xEnd_2, hK.same⟩
  have hc : s.1.length + k ≤ 300 := (nI_leI (by omega) (by omega)).mp h30
  rw [hfm, if_pos hc] at C
  have loop : ∀ (r i : Nat) (Y : xH), i + r = k → xOw E.D Y F V I 0 (s.2.1 0) (s.2.1 1) (V 10) (V 20) (V 30) (V 40) (V 0) (V 1) (s.1 ++ fbs e i) s.2.2.1 (nI s.1.length) s.2.2.2 as1 as2 → xG E Y 0 0 46 [some (.ref (F 0)), some (.long e), none, some (.int (nI k)), some (.int (nI i))] [] := by
    intro r
    induction r with
    | zero =>
      intro i Y hi hY
      have ei : i = k := by omega
      subst ei
      have y1 := hY.1
      refine xr_iload C d_TK_feed_46 48 rfl rfl ?_
      refine xr_iload_n C d_TK_feed_48 49 rfl rfl ?_
      refine xr_icmp_ge C d_TK_feed_49 52 79 rfl (by decide) (fun _ => ?_) (fun h => absurd (nI_le (Nat.le_refl _) (by omega)) h)
      refine xr_aload_n C d_TK_feed_79 80 rfl rfl ?_
      refine xr_dup C d_TK_feed_80 81 rfl rfl ?_
      refine xr_get C K_TK 4 d_TK_feed_81 84 rfl q_121 (Or.inl rfl) rfl (by first | assumption | exact xup_self | exact (xup_ne (by assumption)).trans (by assumption) | exact (xup_ne (Ne.symm (by assumption))).trans (by assumption) | exact (xup_ne (by assumption)).trans xup_self | exact (xup_ne (Ne.symm (by assumption))).trans xup_self) rfl ?_
      refine xr_iload_n C d_TK_feed_84 85 rfl rfl ?_
      refine xr_iadd C d_TK_feed_85 86 rfl ?_
      refine xr_toi (show _ = nI (s.1.length + i) from nI_add _ _) ?_
      have hY2 := hY.self (n' := nI (s.1.length + i)) (lp' := s.2.2.2)
      refine xr_put C K_TK 4 d_TK_feed_86 89 rfl q_121 (Or.inl rfl) rfl rfl rfl rfl (by first | assumption | exact xup_self | exact (xup_ne (by assumption)).trans (by assumption) | exact (xup_ne (Ne.symm (by assumption))).trans (by assumption) | exact (xup_ne (by assumption)).trans xup_self | exact (xup_ne (Ne.symm (by assumption))).trans xup_self) rfl rfl ?_
      refine xr_aload_n C d_TK_feed_89 90 rfl rfl ?_
      refine xr_get C K_TK 4 d_TK_feed_90 93 rfl q_121 (Or.inl rfl) rfl (by first | assumption | exact xup_self | exact (xup_ne (by assumption)).trans (by assumption) | exact (xup_ne (Ne.symm (by assumption))).trans (by assumption) | exact (xup_ne (by assumption)).trans xup_self | exact (xup_ne (Ne.symm (by assumption))).trans xup_self) rfl ?_
      have hln : s.1.length + i = (s.1 ++ fbs e i).length := by rw [List.length_append, fbs_len]
      refine xr_iret C d_TK_feed_93 (by omega) (by omega) ⟨xEnd_ok, ?_⟩
      have hY3 := hY2
      rw [hln] at hY3
      have hX9 : (xup Y (F 0) (.inr (0, [.ref (F 10), .ref (F 11), .ref (F 1), .ref (F 2), .int (nI (s.1 ++ fbs e i).length), .int s.2.2.2]))) = xup Y (F 0) (.inr (0, [.ref (F 10), .ref (F 11), .ref (F 1), .ref (F 2), .int (nI (s.1.length + i)), .int s.2.2.2])) := by rw [hln]
      rw [hX9] at hY3
      exact xOw.tk0 (i := 0) (M := s.2.1) hY3 (by omega) (Nat.le_refl _) (Nat.le_refl _) imLe.rf
    | succ r ih =>
      intro i Y hi hY
      have y1 := hY.1
      obtain ⟨f, y2, y3, y4, y5⟩ := hY.2.1
      have hln : (s.1 ++ fbs e i).length = s.1.length + i := by rw [List.length_append, fbs_len]
      refine xr_iload C d_TK_feed_46 48 rfl rfl ?_
      refine xr_iload_n C d_TK_feed_48 49 rfl rfl ?_
      refine xr_icmp_ge C d_TK_feed_49 52 79 rfl (by decide) (fun h => absurd h (nI_ge (show i < k by omega) (by omega))) (fun _ => ?_)
      refine xr_aload_n C d_TK_feed_52 53 rfl rfl ?_
      refine xr_get C K_TK 2 d_TK_feed_53 56 rfl q_119 (Or.inl rfl) rfl (by first | assumption | exact xup_self | exact (xup_ne (by assumption)).trans (by assumption) | exact (xup_ne (Ne.symm (by assumption))).trans (by assumption) | exact (xup_ne (by assumption)).trans xup_self | exact (xup_ne (Ne.symm (by assumption))).trans xup_self) rfl ?_
      refine xr_aload_n C d_TK_feed_56 57 rfl rfl ?_
      refine xr_get C K_TK 4 d_TK_feed_57 60 rfl q_121 (Or.inl rfl) rfl (by first | assumption | exact xup_self | exact (xup_ne (by assumption)).trans (by assumption) | exact (xup_ne (Ne.symm (by assumption))).trans (by assumption) | exact (xup_ne (by assumption)).trans xup_self | exact (xup_ne (Ne.symm (by assumption))).trans xup_self) rfl ?_
      refine xr_iload C d_TK_feed_60 62 rfl rfl ?_
      refine xr_iadd C d_TK_feed_62 63 rfl ?_
      refine xG.eqS (show _ = [Value.int (nI (s.1.length + i)), Value.ref (F 1)] by rw [← nI_add]) ?_
      refine xr_lload_n C d_TK_feed_63 64 rfl rfl ?_
      refine xr_bipush (v := 8) C d_TK_feed_64 66 rfl (by decide) ?_
      refine xr_iload C d_TK_feed_66 68 rfl rfl ?_
      refine xr_imul C d_TK_feed_68 69 rfl ?_
      refine xr_lushr C d_TK_feed_69 70 rfl rfl ?_
      refine xr_l2i C d_TK_feed_70 71 rfl rfl ?_
      refine xr_i2b C d_TK_feed_71 72 rfl rfl ?_
      refine xr_bast C d_TK_feed_72 73 rfl y2 rfl (by omega) (by omega) ?_
      refine xr_iinc (v := 1) C d_TK_feed_73 76 rfl rfl rfl rfl (by decide) ?_
      refine xr_goto C d_TK_feed_76 46 (by decide) ?_
      refine xG.eqL (show _ = [some (Value.ref (F 0)), some (Value.long e), none, some (Value.int (nI k)), some (Value.int (nI (i + 1)))] by rw [← nI_one]; rfl) ?_
      refine ih (i + 1) _ (by omega) (hY.tape ⟨_, xup_self, ?_, ?_, ?_⟩)
      · intro q hq
        rw [pk_vb]
        by_cases hqe : q = s.1.length + i
        · rw [hqe, pk_us]
          exact pk_fb _
        · rw [pk_un hqe]
          exact y3 q hq
      · rw [List.length_append, fbs_len]
        omega
      · intro q hq
        rw [List.length_append, fbs_len] at hq
        rw [pk_vb, fbs_succ, ← List.append_assoc, getDg_snoc (by rw [hln]; omega), hln]
        by_cases hqe : q < s.1.length + i
        · rw [if_pos hqe, pk_un (by omega)]
          exact y5 q (by omega)
        · rw [if_neg hqe, show q = s.1.length + i by omega, pk_us]
          rfl
  refine xr_iconst (v := 0) C d_TK_feed_43 44 rfl (by decide) ?_
  refine xr_istore C d_TK_feed_44 46 rfl rfl rfl ?_
  refine loop k 0 X (by omega) ?_
  rw [show fbs e 0 = [] from rfl, List.append_nil]
  exact hO
def s0 : St := ([], fun _ => ([], [], 0), [], 0)
def fF (tk tp r a0 l0 m0 k0 a1 l1 m1 k1 : Nat) : Nat → Nat := fun q => if q = 0 then tk else if q = 1 then tp else if q = 2 then r else if q = 10 then a0 else if q = 20 then l0 else if q = 30 then m0 else if q = 40 then k0 else if q = 11 then a1 else if q = 21 then l1 else if q = 31 then m1 else k1
def fV (br e : Nat) : Nat → Nat := fun q => if q = 0 then br else if q = 1 then 256 else if q = 10 then e else if q = 11 then e else if q = 30 then e else if q = 31 then e else 0
set_option maxRecDepth 100000 in
set_option maxHeartbeats 4000000 in
theorem c_TK_init {l : Launch} {D : va_G} {H0 : Heap} {X : xH} {tk : Nat} {v0 v1 v2 v3 v4 v5 : Value} {fe : Nat → Int32} {fd : Nat → Option Nat} (htk : X tk = some (.inr (0, [v0, v1, v2, v3, v4, v5]))) (hE : X (D.2 200 0) = some (.inl (D.1 100, 0, .inl fe))) (hD : X (D.2 200 1) = some (.inl (D.1 101, 0, .inr (.inr (.inr (.inr fd)))))) : xMet l D H0 y_TK_init b_TK_init 1 none [] 6 11 600 [.ref tk] X (fun o X' => o = .inl none ∧ xFr [tk] X X' ∧ ∃ (F V : Nat → Nat) (I : Nat → Option Imm), F 0 = tk ∧ V 1 = 256 ∧ V 20 = 0 ∧ V 21 = 0 ∧ V 40 = 0 ∧ V 41 = 0 ∧ xTK D X' F V I s0) := by
  refine ⟨[some (.ref tk)], rfl, Nat.le_of_ble_eq_true rfl, fun E hD hH hl _ C => ?_⟩
  subst hD
  subst hH
  subst hl
  refine xr_aload_n C d_TK_init_0 1 rfl rfl ?_
  refine xr_objInit C d_TK_init_1 4 rfl q_34 w_oi w_oc (Nat.le_of_ble_eq_true rfl) ?_
  refine xr_aload_n C d_TK_init_4 5 rfl rfl ?_
  refine xr_new (fs := [.null, .null, .int 0]) C K_Ma d_TK_init_5 8 rfl q_37 q_38 q_2 (by intro j hj; match j, hj with | 0, _ => rfl | 1, _ => rfl | 2, _ => rfl) (by omega) (by omega) (fun a0 ha0 => ?_)
  refine xr_dup C d_TK_init_8 9 rfl rfl ?_
  refine xr_callI C (c_Ma_init xup_self) kc_Ma_init d_TK_init_9 12 rfl (Or.inr ⟨_, q_39⟩) v_Ma_init rfl h_Ma_init rfl ⟨Nat.le_of_ble_eq_true rfl, Nat.le_of_ble_eq_true rfl, Nat.le_of_ble_eq_true rfl⟩ (by omega) (by omega) (fun v9 X1 hP => ?_) (fun _ _ h => absurd h.1 (by simp))
  obtain ⟨e1, l0, m0, k0, u1, u2, u3, u4, u5, u6, u7, u8, u9⟩ := hP
  cases e1
  have g1 : xFr [tk] X X1 := (xFr_new ha0).fr u9 (fun q hq => Or.inr (by rw [List.mem_singleton.mp hq]; exact ha0))
  have t1 : X1 tk = some (.inr (0, [v0, v1, v2, v3, v4, v5])) := u9.use (xup_fresh htk ha0) (by rw [List.mem_singleton]; exact xne_none htk ha0)
  refine xr_putF C K_TK 0 d_TK_init_12 15 rfl q_117 (Or.inl rfl) rfl rfl rfl rfl rfl rfl (by first | assumption | exact xup_self | exact (xup_ne (by assumption)).trans (by assumption) | exact (xup_ne (Ne.symm (by assumption))).trans (by assumption) | exact (xup_ne (by assumption)).trans xup_self | exact (xup_ne (Ne.symm (by assumption))).trans xup_self) rfl rfl ?_
  refine xr_aload_n C d_TK_init_15 16 rfl rfl ?_
  obtain ⟨X2, hX2⟩ : ∃ z, z = xup X1 tk (.inr (0, [.ref a0, v1, v2, v3, v4, v5])) := ⟨_, rfl⟩
  refine xG.eqX (show _ = X2 from hX2.symm) ?_
  have h12 : xFr [tk] X1 X2 := by rw [hX2]; exact xFr_up t1 (fun z => z) (by simp)
  have t2 : X2 tk = some (.inr (0, [.ref a0, v1, v2, v3, v4, v5])) := by rw [hX2]; exact xup_self
  refine xr_new (fs := [.null, .null, .int 0]) C K_Ma d_TK_init_16 19 rfl q_37 q_38 q_2 (by intro j hj; match j, hj with | 0, _ => rfl | 1, _ => rfl | 2, _ => rfl) (by omega) (by omega) (fun a1 ha1 => ?_)
  refine xr_dup C d_TK_init_19 20 rfl rfl ?_
  refine xr_callI C (c_Ma_init xup_self) kc_Ma_init d_TK_init_20 23 rfl (Or.inr ⟨_, q_39⟩) v_Ma_init rfl h_Ma_init rfl ⟨Nat.le_of_ble_eq_true rfl, Nat.le_of_ble_eq_true rfl, Nat.le_of_ble_eq_true rfl⟩ (by omega) (by omega) (fun v9 X3 hP => ?_) (fun _ _ h => absurd h.1 (by simp))
  obtain ⟨e1, l1, m1, k1, w1, w2, w3, w4, w5, w6, w7, w8, w9⟩ := hP
  cases e1
  have h23 : xFr [] X2 X3 := (xFr_new ha1).fr w9 (fun q hq => Or.inr (by rw [List.mem_singleton.mp hq]; exact ha1))
  have t3 : X3 tk = some (.inr (0, [.ref a0, v1, v2, v3, v4, v5])) := h23.use t2 List.not_mem_nil
  refine xr_putF C K_TK 1 d_TK_init_23 26 rfl q_118 (Or.inl rfl) rfl rfl rfl rfl rfl rfl (by first | assumption | exact xup_self | exact (xup_ne (by assumption)).trans (by assumption) | exact (xup_ne (Ne.symm (by assumption))).trans (by assumption) | exact (xup_ne (by assumption)).trans xup_self | exact (xup_ne (Ne.symm (by assumption))).trans xup_self) rfl rfl ?_
  refine xr_aload_n C d_TK_init_26 27 rfl rfl ?_
  refine xr_sipush (v := 300) C d_TK_init_27 30 rfl (by decide) ?_
  obtain ⟨X4, hX4⟩ : ∃ z, z = xup X3 tk (.inr (0, [.ref a0, .ref a1, v2, v3, v4, v5])) := ⟨_, rfl⟩
  refine xG.eqX (show _ = X4 from hX4.symm) ?_
  have h34 : xFr [tk] X3 X4 := by rw [hX4]; exact xFr_up t3 (fun z => z) (by simp)
  have t4 : X4 tk = some (.inr (0, [.ref a0, .ref a1, v2, v3, v4, v5])) := by rw [hX4]; exact xup_self
  refine xr_newb (N := 300) C d_TK_init_30 32 rfl q_116 (by decide) (by omega) (by omega) (by omega) (fun tp htp => ?_)
  have t4' := xup_fresh (v := .inl (E.D.1 100, 300, .inl (fun _ => 0))) t4 htp
  refine xr_putF C K_TK 2 d_TK_init_32 35 rfl q_119 (Or.inl rfl) rfl rfl rfl rfl rfl rfl t4' rfl rfl ?_
  refine xr_aload_n C d_TK_init_35 36 rfl rfl ?_
  obtain ⟨X5, hX5⟩ : ∃ z, z = xup (xup X4 tp (.inl (E.D.1 100, 300, .inl (fun _ => 0)))) tk (.inr (0, [.ref a0, .ref a1, .ref tp, v3, v4, v5])) := ⟨_, rfl⟩
  refine xG.eqX (show _ = X5 from hX5.symm) ?_
  have h45 : xFr [tk] X4 X5 := by rw [hX5]; exact (xFr_new htp).trans (xFr_up t4' (fun z => z) (by simp))
  have t5 : X5 tk = some (.inr (0, [.ref a0, .ref a1, .ref tp, v3, v4, v5])) := by rw [hX5]; exact xup_self
  have p5 : X5 tp = some (.inl (E.D.1 100, 300, .inl (fun _ => 0))) := by rw [hX5]; exact (xup_ne (Ne.symm (xne_none t4 htp))).trans xup_self
  refine xr_new (fs := [.null, .int 0]) C K_Ro d_TK_init_36 39 rfl q_101 q_102 q_7 (by intro j hj; match j, hj with | 0, _ => rfl | 1, _ => rfl) (by omega) (by omega) (fun r hr => ?_)
  refine xr_dup C d_TK_init_39 40 rfl rfl ?_
  refine xr_callI C (c_Ro_init xup_self) kc_Ro_init d_TK_init_40 43 rfl (Or.inr ⟨_, q_103⟩) v_Ro_init rfl h_Ro_init rfl ⟨Nat.le_of_ble_eq_true rfl, Nat.le_of_ble_eq_true rfl, Nat.le_of_ble_eq_true rfl⟩ (by omega) (by omega) (fun v9 X6 hP => ?_) (fun _ _ h => absurd h.1 (by simp))
  obtain ⟨e1, br, y1, y2, y3⟩ := hP
  cases e1
  have h56 : xFr [] X5 X6 := (xFr_new hr).fr y2 (fun q hq => Or.inr (by rw [List.mem_singleton.mp hq]; exact hr))
  have t6 := h56.use t5 List.not_mem_nil
  refine xr_putF C K_TK 3 d_TK_init_43 46 rfl q_120 (Or.inl rfl) rfl rfl rfl rfl rfl rfl (by first | assumption | exact xup_self | exact (xup_ne (by assumption)).trans (by assumption) | exact (xup_ne (Ne.symm (by assumption))).trans (by assumption) | exact (xup_ne (by assumption)).trans xup_self | exact (xup_ne (Ne.symm (by assumption))).trans xup_self) rfl rfl ?_
  refine xr_aload_n C d_TK_init_46 47 rfl rfl ?_
  refine xr_iconst (v := 0) C d_TK_init_47 48 rfl (by decide) ?_
  refine xr_put C K_TK 4 d_TK_init_48 51 rfl q_121 (Or.inl rfl) rfl rfl rfl rfl (by first | assumption | exact xup_self | exact (xup_ne (by assumption)).trans (by assumption) | exact (xup_ne (Ne.symm (by assumption))).trans (by assumption) | exact (xup_ne (by assumption)).trans xup_self | exact (xup_ne (Ne.symm (by assumption))).trans xup_self) rfl rfl ?_
  refine xr_aload_n C d_TK_init_51 52 rfl rfl ?_
  refine xr_iconst (v := 0) C d_TK_init_52 53 rfl (by decide) ?_
  refine xr_put C K_TK 5 d_TK_init_53 56 rfl q_122 (Or.inl rfl) rfl rfl rfl rfl (by first | assumption | exact xup_self | exact (xup_ne (by assumption)).trans (by assumption) | exact (xup_ne (Ne.symm (by assumption))).trans (by assumption) | exact (xup_ne (by assumption)).trans xup_self | exact (xup_ne (Ne.symm (by assumption))).trans xup_self) rfl rfl ?_
  obtain ⟨X7, hX7⟩ : ∃ z, z = xup X6 tk (.inr (0, [.ref a0, .ref a1, .ref tp, .ref r, .int 0, .int 0])) := ⟨_, rfl⟩
  refine xG.eqX (show _ = X7 by rw [hX7]; simp only [xup_up]; rfl) ?_
  have h67 : xFr [tk] X6 X7 := by rw [hX7]; exact xFr_up t6 (fun z => z) (by simp)
  have h57 : xFr [tk] X5 X7 := (h56.mono (fun q hq => absurd hq List.not_mem_nil)).trans h67
  have h47 : xFr [tk] X4 X7 := h45.trans h57
  have h37 : xFr [tk] X3 X7 := h34.trans h47
  have h27 : xFr [tk] X2 X7 := (h23.mono (fun q hq => absurd hq List.not_mem_nil)).trans h37
  have h17 : xFr [tk] X1 X7 := h12.trans h27
  have h07 : xFr [tk] X X7 := g1.trans h17
  have nt : ∀ {Y : xH} {q ci : Nat} {fs ft : List Value}, Y tk = some (.inr (0, ft)) → Y q = some (.inr (ci, fs)) → ci ≠ 0 → q ∉ [tk] := fun h1 h2 h3 => by
    rw [List.mem_singleton]
    exact xne h2 h1 (by intro h; cases h; exact h3 rfl)
  have na : ∀ {Y : xH} {q : Nat} {x : ClassId × vp_A} {ft : List Value}, Y tk = some (.inr (0, ft)) → Y q = some (.inl x) → q ∉ [tk] := fun h1 h2 => by
    rw [List.mem_singleton]
    exact xne h2 h1 (by intro h; cases h)
  have z0 := h07.use hE (na htk hE)
  have z1 := h07.use hD (na htk hD)
  have b0 := h17.use u8 (nt t1 u8 (by decide))
  have b1 := h17.use u5 (nt t1 u5 (by decide))
  have b2 := h17.use u7 (nt t1 u7 (by decide))
  have b3 := h17.use u6 (nt t1 u6 (by decide))
  have c0 := h37.use w8 (nt t3 w8 (by decide))
  have c1 := h37.use w5 (nt t3 w5 (by decide))
  have c2 := h37.use w7 (nt t3 w7 (by decide))
  have c3 := h37.use w6 (nt t3 w6 (by decide))
  have p7 := h57.use p5 (na t5 p5)
  have t7 : X7 tk = some (.inr (0, [.ref a0, .ref a1, .ref tp, .ref r, .int 0, .int 0])) := by rw [hX7]; exact xup_self
  obtain ⟨fr, yr1, yr2, yr3⟩ := id y1
  have r7 : xRow E.D X7 r br 256 [] := y1.keep h67 (nt t6 yr1 (by decide)) (na t6 yr2)
  have hzz : xz0 X7 (E.D.2 200 1) := ⟨_, z1, rfl⟩
  have li : ∀ a, X7 a = some (.inr (7, [.int 0, .ref (E.D.2 200 1), .int 0])) → xLi E.D X7 a (E.D.2 200 1) 0 [] := fun a ha => ⟨0, fd, ha, z1, Nat.le_refl _, by omega, fun _ => rfl, fun i hi => absurd hi (Nat.not_lt_zero _)⟩
  have old2 : ∀ {q : Nat} {v : va_E}, X1 q = some v → ∃ v', X2 q = some v' := fun hq => h12.dom _ _ hq
  have da : a0 ≠ a1 := by
    obtain ⟨v', hv⟩ := old2 u8
    exact xne_none hv ha1
  have dm : m0 ≠ m1 := by
    obtain ⟨v', hv⟩ := old2 u7
    exact xne_none hv ((xFr_new (S := []) ha1).2 _ w2)
  have dl : ∀ {q : Nat} {v : va_E}, X1 q = some v → q ≠ l1 ∧ q ≠ k1 := fun hq => by
    obtain ⟨v', hv⟩ := old2 hq
    exact ⟨xne_none hv ((xFr_new (S := []) ha1).2 _ w1), xne_none hv ((xFr_new (S := []) ha1).2 _ w3)⟩
  have hbe : tp ≠ br := xne_none p5 ((xFr_new (S := []) hr).2 _ y3)
  have hEq : br ≠ E.D.2 200 0 := by
    have h5E : X5 (E.D.2 200 0) = some (.inl (E.D.1 100, 0, .inl fe)) := h45.use (h34.use (h23.use (h12.use (g1.use hE (na htk hE)) (na t1 (g1.use hE (na htk hE)))) List.not_mem_nil) (na t3 (h23.use (h12.use (g1.use hE (na htk hE)) (na t1 (g1.use hE (na htk hE)))) List.not_mem_nil))) (na t4 (h34.use (h23.use (h12.use (g1.use hE (na htk hE)) (na t1 (g1.use hE (na htk hE)))) List.not_mem_nil) (na t3 (h23.use (h12.use (g1.use hE (na htk hE)) (na t1 (g1.use hE (na htk hE)))) List.not_mem_nil))))
    exact Ne.symm (xne_none h5E ((xFr_new (S := []) hr).2 _ y3))
  have hEp : tp ≠ E.D.2 200 0 := xne p7 z0 (by intro h; cases h)
  obtain ⟨I, hId⟩ : ∃ I : Nat → Option Imm, I = imUp (fun _ => none) (E.D.2 200 0) (.inl []) := ⟨_, rfl⟩
  have hI : xIm E.D X7 I := by
    rw [hId]
    exact xIm.up (fun a v h => by cases h) ⟨by rw [List.length_nil]; omega, fe, z0, fun i hi => absurd hi (Nat.not_lt_zero _)⟩
  have mac : ∀ a l mm k, X7 a = some (.inr (1, [.ref l, .ref mm, .int 0])) → X7 l = some (.inr (7, [.int 0, .ref (E.D.2 200 1), .int 0])) → X7 mm = some (.inr (2, [.ref k, .int 0])) → X7 k = some (.inr (7, [.int 0, .ref (E.D.2 200 1), .int 0])) → l ≠ k → xMac E.D X7 I a l (E.D.2 200 1) 0 mm k (E.D.2 200 1) 0 [] [] [] [] 0 := by
    intro a l mm k q1 q2 q3 q4 q5
    exact ⟨q1, li l q2, ⟨rfl, fun i hi => absurd hi (Nat.not_lt_zero _)⟩, ⟨Nat.zero_le _, fun s hs => absurd hs List.not_mem_nil⟩, ⟨q3, li k q4, ⟨rfl, fun i hi => absurd hi (Nat.not_lt_zero _)⟩, Nat.zero_le _, Nat.zero_le _, fun s hs => absurd hs List.not_mem_nil⟩, q5, Or.inr hzz⟩
  have hM0 := mac a0 l0 m0 k0 b0 b1 b2 b3 u4
  have hM1 := mac a1 l1 m1 k1 c0 c1 c2 c3 w4
  have hTp : xTape E.D X7 tp [] := ⟨fun _ => 0, p7, fun i hi => (rfl : fits .byte (.int 0) = true), Nat.zero_le _, fun i hi => absurd hi (Nat.not_lt_zero _)⟩
  have hIt : I tp = none := by rw [hId]; exact imUp_ne hEp
  have hIb : I br = none := by rw [hId]; exact imUp_ne hEq
  have hIe : I (E.D.2 200 0) = some (.inl []) := by rw [hId]; exact imUp_self
  have hsep : xSep X7 a0 l0 (E.D.2 200 1) m0 k0 (E.D.2 200 1) a1 l1 (E.D.2 200 1) m1 k1 (E.D.2 200 1) := ⟨da, dm, (dl u5).1, (dl u5).2, (dl u6).1, (dl u6).2, Or.inr hzz, Or.inr hzz, Or.inr hzz, Or.inr hzz⟩
  refine xr_vret C d_TK_init_56 (by omega) (by omega) ⟨rfl, h07, fF tk tp r a0 l0 m0 k0 a1 l1 m1 k1, fV br (E.D.2 200 1), I, rfl, rfl, rfl, rfl, rfl, rfl, t7, hTp, hIt, hbe, r7, hIb, hI, hIe, ⟨[], [], hM0⟩, ⟨[], [], hM1⟩, hsep⟩
