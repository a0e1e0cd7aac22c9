/-! JDK: ArrayList, as lists of objects (xLi). -/
theorem xOb.up {X : xH} {q a ci : Nat} {fs fs' : List Value} (h : xOb X q) (ha : X a = some (.inr (ci, fs))) : xOb (xup X a (.inr (ci, fs'))) q := by
  obtain ⟨cj, vs, r, h1, h2, h3⟩ := h
  by_cases hq : q = a
  · subst hq
    cases ha.symm.trans h1
    exact ⟨ci, fs', r, xup_self, h2, h3⟩
  · exact ⟨cj, vs, r, (xup_ne hq).trans h1, h2, h3⟩
theorem xOb.arr {X : xH} {q b : Nat} {x : ClassId × vp_A} {v : va_E} (h : xOb X q) (hb : X b = some (.inl x)) : xOb (xup X b v) q := by
  obtain ⟨cj, vs, r, h1, h2, h3⟩ := h
  exact ⟨cj, vs, r, (xup_ne (xne h1 hb (by intro h; cases h))).trans h1, h2, h3⟩
theorem xOb.fresh {X : xH} {q b : Nat} {v : va_E} (h : xOb X q) (hb : X b = none) : xOb (xup X b v) q := by
  obtain ⟨cj, vs, r, h1, h2, h3⟩ := h
  exact ⟨cj, vs, r, xup_fresh h1 hb, h2, h3⟩
theorem xLi.el {D : va_G} {X : xH} {as : List Nat} {f : Nat → Option Nat} (hf : ∀ i, i < as.length → f i = some (as.getD i 0)) (ho : ∀ q ∈ as, xOb X q) : ∀ i, i < as.length → ∀ q, f i = some q → xOb X q := fun i hi q hq => by
  rw [hf i hi] at hq
  cases hq
  rw [List.getD_eq_getElem?_getD, List.getElem?_eq_getElem hi]
  exact ho _ (List.getElem_mem hi)
theorem getD_snoc {as : List Nat} {v i : Nat} (hi : i < (as ++ [v]).length) : (as ++ [v]).getD i 0 = if i < as.length then as.getD i 0 else v := by
  rw [List.length_append, List.length_singleton] at hi
  by_cases h : i < as.length
  · rw [if_pos h, List.getD_eq_getElem?_getD, List.getD_eq_getElem?_getD, List.getElem?_append_left h]
  · rw [if_neg h, List.getD_eq_getElem?_getD, List.getElem?_append_right (by omega), show i - as.length = 0 by omega]
    rfl
set_option maxRecDepth 100000 in
set_option maxHeartbeats 4000000 in
theorem c_AL_add3 {l : Launch} {D : va_G} {H0 : Heap} {X : xH} {a b cap v : Nat} {mo : Int32} {as : List Nat} {f : Nat → Option Nat} (ha : X a = some (.inr (7, [.int mo, .ref b, .int (nI as.length)]))) (hb : X b = some (.inl (D.1 101, cap, .inr (.inr (.inr (.inr f)))))) (hle : as.length ≤ cap) (hc : cap ≤ 200) (hz : cap = 0 → b = D.2 200 1) (hf : ∀ i, i < as.length → f i = some (as.getD i 0)) (hn : as.length ≤ 128) (ho : ∀ q ∈ as, xOb X q) (hv : xOb X v) {k : Nat} (hk : cap ≤ as.length → 1 ≤ k) : xMet l D H0 y_AL_add3 b_AL_add3 4 none [] 4 k (200 * k) [.ref a, .ref v, .ref b, .int (nI as.length)] X (fun o X' => o = .inl none ∧ ∃ b' : Nat, xLi D X' a b' (if as.length < cap then cap else nx cap) (as ++ [v]) ∧ xFr [a, b] X X' ∧ (b' = b ∨ X b' = none)) := by
  refine ⟨[some (.ref a), some (.ref v), some (.ref b), some (.int (nI as.length))], rfl, Nat.le_of_ble_eq_true rfl, fun E hD hH hl _ C => ?_⟩
  subst hD
  subst hH
  subst hl
  have hab : a ≠ b := xne ha hb (by intro h; cases h)
  refine xr_iload_n C d_AL_add3_0 1 rfl rfl ?_
  refine xr_aload_n C d_AL_add3_1 2 rfl rfl ?_
  refine xr_alen (t0 := 1) C rfl d_AL_add3_2 3 rfl hb ?_
  refine xr_icmp_ne C d_AL_add3_3 6 11 rfl (by decide) (fun h3 => ?_) (fun h3 => ?_)
  · have hlt : as.length < cap := by
      rcases Nat.lt_or_ge as.length cap with h | h
      · exact h
      · exact absurd (show nI as.length = nI cap by rw [show as.length = cap by omega]) h3
    obtain ⟨ci, vs, r, o1, o2, o3⟩ := hv
    refine xr_aload_n C d_AL_add3_11 12 rfl rfl ?_
    refine xr_iload_n C d_AL_add3_12 13 rfl rfl ?_
    refine xr_aload_n C d_AL_add3_13 14 rfl rfl ?_
    refine xr_aast C d_AL_add3_14 15 rfl hb rfl hlt (by omega) o1 o2 o3 ?_
    refine xr_aload_n C d_AL_add3_15 16 rfl rfl ?_
    refine xr_iload_n C d_AL_add3_16 17 rfl rfl ?_
    refine xr_iconst (v := 1) C d_AL_add3_17 18 rfl (by decide) ?_
    refine xr_iadd C d_AL_add3_18 19 rfl ?_
    refine xr_toi (nI_one _) ?_
    refine xr_put C K_AL 2 d_AL_add3_19 22 rfl q_58 (Or.inl rfl) rfl rfl rfl rfl ((xup_ne hab).trans ha) rfl rfl ?_
    refine xr_vret C d_AL_add3_22 (by omega) (by omega) ?_
    rw [if_pos hlt]
    refine ⟨rfl, b, ⟨mo, va_up f as.length (some v), ?_, (xup_ne (Ne.symm hab)).trans xup_self, ?_, hc, hz, fun i hi => ?_⟩, ?_, Or.inl rfl⟩
    · rw [List.length_append, List.length_singleton]
      exact xup_self
    · rw [List.length_append, List.length_singleton]
      omega
    · rw [getD_snoc hi]
      by_cases h : i < as.length
      · rw [if_pos h, va_up_ne _ _ (by omega)]
        exact hf i h
      · rw [if_neg h, show i = as.length by rw [List.length_append, List.length_singleton] at hi; omega]
        exact va_up_self _ _ _
    · exact (xFr_up hb (fun z => absurd z (show cap ≠ 0 by omega)) (by simp)).trans (xFr_up ((xup_ne hab).trans ha) (fun z => z) (by simp))
  · have heq : as.length = cap := (nI_eq (by omega) (by omega)).mp h3
    subst heq
    refine xr_aload_n C d_AL_add3_6 7 rfl rfl ?_
    have hk1 := hk (Nat.le_refl _)
    refine xG.wide (c2 := k - 1) (s2 := 200 * (k - 1)) (by omega) (by omega) ?_
    refine xr_callV C (c_AL_grow0 ha hb hn hz (xLi.el (D := E.D) hf ho)) k_AL_grow0 d_AL_add3_7 10 rfl (by first | assumption | exact xup_self | exact (xup_ne (by assumption)).trans (by assumption) | exact (xup_ne (Ne.symm (by assumption))).trans (by assumption) | exact (xup_ne (by assumption)).trans xup_self | exact (xup_ne (Ne.symm (by assumption))).trans xup_self) rfl (Or.inl q_342) v_AL_grow0 e_AL_grow0 h_AL_grow0 rfl ⟨Nat.le_of_ble_eq_true rfl, Nat.le_of_ble_eq_true rfl, Nat.le_of_ble_eq_true rfl⟩ (by omega) (by omega) (fun v9 X' hP => ?_) (fun _ _ h => by obtain ⟨q, N, f9, h, -⟩ := h; cases h)
    obtain ⟨q, N, f', h1, h2, h4, h5, rfl, h6, h7⟩ := hP
    cases h1
    have hqa : q ≠ a := Ne.symm (xne_none ha h2)
    have hv' := (hv.fresh (v := .inl (E.D.1 101, N, .inr (.inr (.inr (.inr f'))))) h2).up (fs' := [.int mo, .ref q, .int (nI as.length)]) (xup_fresh ha h2)
    obtain ⟨ci, vs, r, o1, o2, o3⟩ := hv'
    refine xr_astore_n C d_AL_add3_10 11 rfl rfl rfl ?_
    refine xr_aload_n C d_AL_add3_11 12 rfl rfl ?_
    refine xr_iload_n C d_AL_add3_12 13 rfl rfl ?_
    refine xr_aload_n C d_AL_add3_13 14 rfl rfl ?_
    refine xr_aast C d_AL_add3_14 15 rfl ((xup_ne hqa).trans xup_self) rfl h4 (by omega) o1 o2 o3 ?_
    refine xr_aload_n C d_AL_add3_15 16 rfl rfl ?_
    refine xr_iload_n C d_AL_add3_16 17 rfl rfl ?_
    refine xr_iconst (v := 1) C d_AL_add3_17 18 rfl (by decide) ?_
    refine xr_iadd C d_AL_add3_18 19 rfl ?_
    refine xr_toi (nI_one _) ?_
    refine xr_put C K_AL 2 d_AL_add3_19 22 rfl q_58 (Or.inl rfl) rfl rfl rfl rfl ((xup_ne (Ne.symm hqa)).trans xup_self) rfl rfl ?_
    refine xr_vret C d_AL_add3_22 (by omega) (by omega) ?_
    rw [if_neg (Nat.lt_irrefl _), ← h7]
    refine ⟨rfl, q, ⟨mo, va_up f' as.length (some v), ?_, (xup_ne hqa).trans xup_self, ?_, h5, fun h0 => absurd h0 (by omega), fun i hi => ?_⟩, ?_, Or.inr h2⟩
    · rw [List.length_append, List.length_singleton]
      exact xup_self
    · rw [List.length_append, List.length_singleton]
      omega
    · rw [getD_snoc hi]
      by_cases h : i < as.length
      · rw [if_pos h, va_up_ne _ _ (by omega), h6 i h]
        exact hf i h
      · rw [if_neg h, show i = as.length by rw [List.length_append, List.length_singleton] at hi; omega]
        exact va_up_self _ _ _
    · exact (((xFr.rf.fresh h2).at ha (fun z => z) (by simp)).fresh h2).at ha (fun z => z) (by simp)
set_option maxRecDepth 100000 in
set_option maxHeartbeats 4000000 in
theorem c_AL_add1 {l : Launch} {D : va_G} {H0 : Heap} {X : xH} {a b cap v : Nat} {as : List Nat} (hL : xLi D X a b cap as) (hn : as.length ≤ 128) (ho : ∀ q ∈ as, xOb X q) (hv : xOb X v) {k : Nat} (hk : cap ≤ as.length → 1 ≤ k) : xMet l D H0 y_AL_add1 b_AL_add1 2 (some .boolean) [] 5 k (200 * k) [.ref a, .ref v] X (fun o X' => o = .inl (some (.int 1)) ∧ ∃ b' : Nat, xLi D X' a b' (if as.length < cap then cap else nx cap) (as ++ [v]) ∧ xFr [a, b] X X' ∧ (b' = b ∨ X b' = none)) := by
  obtain ⟨mo, f, ha, hb, hle, hc, hz, hf⟩ := hL
  refine ⟨[some (.ref a), some (.ref v)], rfl, Nat.le_of_ble_eq_true rfl, fun E hD hH hl _ C => ?_⟩
  subst hD
  subst hH
  subst hl
  have hab : a ≠ b := xne ha hb (by intro h; cases h)
  refine xr_aload_n C d_AL_add1_0 1 rfl rfl ?_
  refine xr_dup C d_AL_add1_1 2 rfl rfl ?_
  refine xr_get C K_AL 0 d_AL_add1_2 5 rfl q_60 (Or.inr q_61) rfl (by first | assumption | exact xup_self | exact (xup_ne (by assumption)).trans (by assumption) | exact (xup_ne (Ne.symm (by assumption))).trans (by assumption) | exact (xup_ne (by assumption)).trans xup_self | exact (xup_ne (Ne.symm (by assumption))).trans xup_self) rfl ?_
  refine xr_iconst (v := 1) C d_AL_add1_5 6 rfl (by decide) ?_
  refine xr_iadd C d_AL_add1_6 7 rfl ?_
  refine xr_put C K_AL 0 d_AL_add1_7 10 rfl q_60 (Or.inr q_61) rfl rfl rfl rfl (by first | assumption | exact xup_self | exact (xup_ne (by assumption)).trans (by assumption) | exact (xup_ne (Ne.symm (by assumption))).trans (by assumption) | exact (xup_ne (by assumption)).trans xup_self | exact (xup_ne (Ne.symm (by assumption))).trans xup_self) rfl rfl ?_
  refine xr_aload_n C d_AL_add1_10 11 rfl rfl ?_
  refine xr_aload_n C d_AL_add1_11 12 rfl rfl ?_
  refine xr_aload_n C d_AL_add1_12 13 rfl rfl ?_
  refine xr_get C K_AL 1 d_AL_add1_13 16 rfl q_57 (Or.inl rfl) rfl (by first | assumption | exact xup_self | exact (xup_ne (by assumption)).trans (by assumption) | exact (xup_ne (Ne.symm (by assumption))).trans (by assumption) | exact (xup_ne (by assumption)).trans xup_self | exact (xup_ne (Ne.symm (by assumption))).trans xup_self) rfl ?_
  refine xr_aload_n C d_AL_add1_16 17 rfl rfl ?_
  refine xr_get C K_AL 2 d_AL_add1_17 20 rfl q_58 (Or.inl rfl) rfl (by first | assumption | exact xup_self | exact (xup_ne (by assumption)).trans (by assumption) | exact (xup_ne (Ne.symm (by assumption))).trans (by assumption) | exact (xup_ne (by assumption)).trans xup_self | exact (xup_ne (Ne.symm (by assumption))).trans xup_self) rfl ?_
  refine xr_callV C (c_AL_add3 (as := as) xup_self ((xup_ne (Ne.symm hab)).trans hb) hle hc hz hf hn (fun q hq => (ho q hq).up ha) (hv.up ha) hk) k_AL_add3 d_AL_add1_20 23 rfl xup_self rfl (Or.inl q_338) v_AL_add3 e_AL_add3 h_AL_add3 rfl ⟨Nat.le_of_ble_eq_true rfl, Nat.le_of_ble_eq_true rfl, Nat.le_of_ble_eq_true rfl⟩ (by omega) (by omega) (fun v9 X' hP => ?_) (fun _ _ h => absurd h.1 (by simp))
  obtain ⟨h1, b', h2, h3, h4⟩ := hP
  cases h1
  refine xr_iconst (v := 1) C d_AL_add1_23 24 rfl (by decide) ?_
  refine xr_zret C d_AL_add1_24 rfl (by omega) (by omega) ⟨rfl, b', h2, (xFr_up ha (fun z => z) (by simp)).trans h3, h4.imp id (fun h => ?_)⟩
  by_cases hq : b' = a
  · subst hq
    rw [xup_self] at h
    cases h
  · rw [xup_ne hq] at h
    exact h
