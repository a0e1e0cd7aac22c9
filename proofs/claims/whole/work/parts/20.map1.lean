/-! The map: looking for keys. -/
def eD (es : List Es) (i : Nat) : Es := es.getD i ([], [])
def fnb : List Es → List Int32 → Nat
  | [], _ => 0
  | e :: es, k => if bl e.1 k = true then fnb es k + 1 else 0
theorem fnb_le (k : List Int32) : ∀ es : List Es, fnb es k ≤ es.length
  | [] => Nat.le_refl _
  | e :: es => by
    have := fnb_le k es
    unfold fnb
    rw [List.length_cons]
    split <;> omega
theorem fnb_at {k : List Int32} : ∀ {es : List Es} {i : Nat}, i ≤ es.length → (∀ j, j < i → bl (eD es j).1 k = true) → (i < es.length → bl (eD es i).1 k = false) → fnb es k = i
  | [], i, hi, _, _ => by
    rw [List.length_nil] at hi
    show 0 = i
    omega
  | e :: es, 0, _, _, h => by
    have h1 : bl e.1 k = false := h (Nat.succ_pos _)
    unfold fnb
    rw [h1]
    rfl
  | e :: es, i + 1, hi, ha, h => by
    have h0 : bl e.1 k = true := ha 0 (Nat.succ_pos _)
    have ih := fnb_at (k := k) (es := es) (i := i) (by rw [List.length_cons] at hi; omega) (fun j hj => ha (j + 1) (by omega)) (fun hl => h (by rw [List.length_cons]; omega))
    unfold fnb
    rw [if_pos h0, ih]
def okE (e : Es) : Prop := 1 ≤ e.1.length ∧ e.1.length ≤ 32 ∧ e.2.length ≤ 100
def uns (es : List Es) : Nat := (es.map un).sum
def imEs (I : Nat → Option Imm) (as : List Nat) (es : List Es) : Prop := as.length = es.length ∧ ∀ i, i < as.length → imE I (as.getD i 0) (eD es i)
def okM (es : List Es) : Prop := es.length ≤ 128 ∧ uns es ≤ 700 ∧ ∀ e ∈ es, okE e
/-- a map at mp: its list at l, the list's array at b -/
def xMap (D : va_G) (X : xH) (I : Nat → Option Imm) (mp l b cap : Nat) (as : List Nat) (es : List Es) : Prop := X mp = some (.inr (2, [.ref l, .int (nI (uns es))])) ∧ xLi D X l b cap as ∧ imEs I as es ∧ okM es
theorem eD_mem {es : List Es} {i : Nat} (h : i < es.length) : eD es i ∈ es := by
  unfold eD
  rw [List.getD_eq_getElem?_getD, List.getElem?_eq_getElem h]
  exact List.getElem_mem h
theorem imEs.le {I I' : Nat → Option Imm} {as : List Nat} {es : List Es} (h : imEs I as es) (hl : imLe I I') : imEs I' as es := ⟨h.1, fun i hi => (h.2 i hi).le hl⟩
theorem mem_getD {as : List Nat} {q : Nat} (h : q ∈ as) : ∃ i, i < as.length ∧ as.getD i 0 = q := by
  obtain ⟨i, hi, e⟩ := List.getElem_of_mem h
  exact ⟨i, hi, by rw [List.getD_eq_getElem?_getD, List.getElem?_eq_getElem hi]; exact e⟩
theorem imEs.ob {D : va_G} {X : xH} {I : Nat → Option Imm} {as : List Nat} {es : List Es} (h : imEs I as es) (hI : xIm D X I) : ∀ q ∈ as, xOb X q := fun q hq => by
  obtain ⟨i, hi, rfl⟩ := mem_getD hq
  exact (h.2 i hi).ob hI
theorem xLi.ob {D : va_G} {X : xH} {a b cap : Nat} {as : List Nat} (h : xLi D X a b cap as) : ∃ vs, X a = some (.inr (7, vs)) := by
  obtain ⟨mo, f, h1, -⟩ := h
  exact ⟨_, h1⟩
theorem xMap.keep {D : va_G} {X X' : xH} {I : Nat → Option Imm} {S : List Nat} {mp l b cap : Nat} {as : List Nat} {es : List Es} (h : xMap D X I mp l b cap as es) (hf : xFr S X X') (h1 : mp ∉ S) (h2 : l ∉ S) (h3 : b ∉ S) : xMap D X' I mp l b cap as es := ⟨hf.use h.1 h1, h.2.1.keep hf h2 h3, h.2.2⟩
theorem xLi.ar {D : va_G} {X : xH} {a b cap : Nat} {as : List Nat} (h : xLi D X a b cap as) : ∃ f, X b = some (.inl (D.1 101, cap, .inr (.inr (.inr (.inr f))))) := by
  obtain ⟨mo, f, h1, h2, -⟩ := h
  exact ⟨f, h2⟩
theorem xkd {c c' : ClassId} {n n' : Nat} {f : Nat → Int32} {p : (Nat → Int64) ⊕ (Nat → UInt32) ⊕ (Nat → UInt64) ⊕ (Nat → Option Nat)} : (Sum.inl (c, n, Sum.inr p) : va_E) ≠ Sum.inl (c', n', Sum.inl f) := fun h => by
  have h1 := (Prod.ext_iff.mp (Prod.ext_iff.mp (Sum.inl.inj h)).2).2
  cases h1
/-- a row's cells are none of a map's -/
theorem xMap.keepR {D : va_G} {X X' : xH} {I : Nat → Option Imm} {r br rc : Nat} {bs : List Int32} {mp l b cap : Nat} {as : List Nat} {es : List Es} (h : xMap D X I mp l b cap as es) (hR : xRow D X r br rc bs) (hf : xFr [r, br] X X') : xMap D X' I mp l b cap as es := by
  obtain ⟨vs, hl⟩ := h.2.1.ob
  obtain ⟨f, hb⟩ := h.2.1.ar
  obtain ⟨g, hr⟩ := hR.arr
  refine h.keep hf ?_ ?_ ?_
  · simp only [List.mem_cons, List.not_mem_nil, or_false, not_or]
    exact ⟨xne h.1 hR.at (by intro h; cases h), xne h.1 hr (by intro h; cases h)⟩
  · simp only [List.mem_cons, List.not_mem_nil, or_false, not_or]
    exact ⟨xne hl hR.at (by intro h; cases h), xne hl hr (by intro h; cases h)⟩
  · simp only [List.mem_cons, List.not_mem_nil, or_false, not_or]
    exact ⟨xne hb hR.at (by intro h; cases h), xne hb hr xkd⟩
def hasK (es : List Es) (k : List Int32) : Prop := fnb es k < es.length ∧ (eD es (fnb es k)).1 = k
def ixK (es : List Es) (k : List Int32) : Int32 := if fnb es k < es.length ∧ (eD es (fnb es k)).1 = k then nI (fnb es k) else -1
set_option maxRecDepth 100000 in
set_option maxHeartbeats 4000000 in
theorem c_KM_firstNotBelow {l : Launch} {D : va_G} {H0 : Heap} {X : xH} {mp la b cap : Nat} {as : List Nat} {es : List Es} {I : Nat → Option Imm} (hI : xIm D X I) (hM : xMap D X I mp la b cap as es) {kq : Nat} {key : List Int32} (hk : xBy D X kq key) : xMet l D H0 y_KM_firstNotBelow b_KM_firstNotBelow 3 (some .int) [] 3 0 0 [.ref mp, .ref kq] X (fun o X' => o = .inl (some (.int (nI (fnb es key)))) ∧ X' = X) := by
  obtain ⟨hmp, hL, hE, hok⟩ := hM
  obtain ⟨vl, hl⟩ := hL.ob
  have hlen := hE.1
  have hle := hL.len
  refine ⟨[some (.ref mp), some (.ref kq), none], rfl, Nat.le_of_ble_eq_true rfl, fun E hD hH hl _ C => ?_⟩
  subst hD
  subst hH
  subst hl
  have loop : ∀ (k i : Nat), i + k = es.length → (∀ j, j < i → bl (eD es j).1 key = true) → xG E X 0 0 2 [some (.ref mp), some (.ref kq), some (.int (nI i))] [] := by
    intro k
    induction k with
    | zero =>
      intro i hi h1
      have e : i = es.length := by omega
      refine xr_iload_n C d_KM_firstNotBelow_2 3 rfl rfl ?_
      refine xr_aload_n C d_KM_firstNotBelow_3 4 rfl rfl ?_
      refine xr_get C K_KM 0 d_KM_firstNotBelow_4 7 rfl q_77 (Or.inl rfl) rfl (by first | assumption | exact xup_self | exact (xup_ne (by assumption)).trans (by assumption) | exact (xup_ne (Ne.symm (by assumption))).trans (by assumption) | exact (xup_ne (by assumption)).trans xup_self | exact (xup_ne (Ne.symm (by assumption))).trans xup_self) rfl ?_
      refine xr_callV C (l_size hL) k_AL_size d_KM_firstNotBelow_7 10 rfl (by first | assumption | exact xup_self | exact (xup_ne (by assumption)).trans (by assumption) | exact (xup_ne (Ne.symm (by assumption))).trans (by assumption) | exact (xup_ne (by assumption)).trans xup_self | exact (xup_ne (Ne.symm (by assumption))).trans xup_self) rfl (Or.inl q_689) v_AL_size e_AL_size h_AL_size rfl ⟨Nat.le_of_ble_eq_true rfl, Nat.le_of_ble_eq_true rfl, Nat.le_of_ble_eq_true rfl⟩ (by omega) (by omega) (fun v9 X hP => ?_) (fun _ _ h => absurd h.1 (by simp))
      obtain ⟨h1, rfl⟩ := hP
      cases h1
      refine xr_icmp_ge C d_KM_firstNotBelow_10 13 42 rfl (by decide) (fun _ => ?_) (fun h => absurd (nI_le (show as.length ≤ i by omega) (by omega)) h)
      refine xr_aload_n C d_KM_firstNotBelow_42 43 rfl rfl ?_
      refine xr_get C K_KM 0 d_KM_firstNotBelow_43 46 rfl q_77 (Or.inl rfl) rfl (by first | assumption | exact xup_self | exact (xup_ne (by assumption)).trans (by assumption) | exact (xup_ne (Ne.symm (by assumption))).trans (by assumption) | exact (xup_ne (by assumption)).trans xup_self | exact (xup_ne (Ne.symm (by assumption))).trans xup_self) rfl ?_
      refine xr_callV C (l_size hL) k_AL_size d_KM_firstNotBelow_46 49 rfl (by first | assumption | exact xup_self | exact (xup_ne (by assumption)).trans (by assumption) | exact (xup_ne (Ne.symm (by assumption))).trans (by assumption) | exact (xup_ne (by assumption)).trans xup_self | exact (xup_ne (Ne.symm (by assumption))).trans xup_self) rfl (Or.inl q_689) v_AL_size e_AL_size h_AL_size rfl ⟨Nat.le_of_ble_eq_true rfl, Nat.le_of_ble_eq_true rfl, Nat.le_of_ble_eq_true rfl⟩ (by omega) (by omega) (fun v9 X hP => ?_) (fun _ _ h => absurd h.1 (by simp))
      obtain ⟨h1, rfl⟩ := hP
      cases h1
      exact xr_iret C d_KM_firstNotBelow_49 (by omega) (by omega) ⟨by rw [fnb_at (i := i) (by omega) h1 (fun h => absurd h (by omega)), hlen, e], rfl⟩
    | succ k ih =>
      intro i hi h1
      have i1 : i < as.length := by omega
      obtain ⟨p, q, k1, k2, k3, -⟩ := (hE.2 i i1).use hI
      refine xr_iload_n C d_KM_firstNotBelow_2 3 rfl rfl ?_
      refine xr_aload_n C d_KM_firstNotBelow_3 4 rfl rfl ?_
      refine xr_get C K_KM 0 d_KM_firstNotBelow_4 7 rfl q_77 (Or.inl rfl) rfl (by first | assumption | exact xup_self | exact (xup_ne (by assumption)).trans (by assumption) | exact (xup_ne (Ne.symm (by assumption))).trans (by assumption) | exact (xup_ne (by assumption)).trans xup_self | exact (xup_ne (Ne.symm (by assumption))).trans xup_self) rfl ?_
      refine xr_callV C (l_size hL) k_AL_size d_KM_firstNotBelow_7 10 rfl (by first | assumption | exact xup_self | exact (xup_ne (by assumption)).trans (by assumption) | exact (xup_ne (Ne.symm (by assumption))).trans (by assumption) | exact (xup_ne (by assumption)).trans xup_self | exact (xup_ne (Ne.symm (by assumption))).trans xup_self) rfl (Or.inl q_689) v_AL_size e_AL_size h_AL_size rfl ⟨Nat.le_of_ble_eq_true rfl, Nat.le_of_ble_eq_true rfl, Nat.le_of_ble_eq_true rfl⟩ (by omega) (by omega) (fun v9 X hP => ?_) (fun _ _ h => absurd h.1 (by simp))
      obtain ⟨h1, rfl⟩ := hP
      cases h1
      refine xr_icmp_ge C d_KM_firstNotBelow_10 13 42 rfl (by decide) (fun h => absurd h (nI_ge i1 (by omega))) (fun _ => ?_)
      refine xr_aload_n C d_KM_firstNotBelow_13 14 rfl rfl ?_
      refine xr_get C K_KM 0 d_KM_firstNotBelow_14 17 rfl q_77 (Or.inl rfl) rfl (by first | assumption | exact xup_self | exact (xup_ne (by assumption)).trans (by assumption) | exact (xup_ne (Ne.symm (by assumption))).trans (by assumption) | exact (xup_ne (by assumption)).trans xup_self | exact (xup_ne (Ne.symm (by assumption))).trans xup_self) rfl ?_
      refine xr_iload_n C d_KM_firstNotBelow_17 18 rfl rfl ?_
      refine xr_callV C (l_get hL i1) k_AL_get d_KM_firstNotBelow_18 21 rfl (by first | assumption | exact xup_self | exact (xup_ne (by assumption)).trans (by assumption) | exact (xup_ne (Ne.symm (by assumption))).trans (by assumption) | exact (xup_ne (by assumption)).trans xup_self | exact (xup_ne (Ne.symm (by assumption))).trans xup_self) rfl (Or.inl q_690) v_AL_get e_AL_get h_AL_get rfl ⟨Nat.le_of_ble_eq_true rfl, Nat.le_of_ble_eq_true rfl, Nat.le_of_ble_eq_true rfl⟩ (by omega) (by omega) (fun v9 X hP => ?_) (fun _ _ h => absurd h.1 (by simp))
      obtain ⟨h1, rfl⟩ := hP
      cases h1
      refine xr_cast C d_KM_firstNotBelow_21 24 rfl k1 rfl q_691 ?_
      refine xr_get C K_En 0 d_KM_firstNotBelow_24 27 rfl q_711 (Or.inl rfl) rfl (by first | assumption | exact xup_self | exact (xup_ne (by assumption)).trans (by assumption) | exact (xup_ne (Ne.symm (by assumption))).trans (by assumption) | exact (xup_ne (by assumption)).trans xup_self | exact (xup_ne (Ne.symm (by assumption))).trans xup_self) rfl ?_
      refine xr_aload_n C d_KM_firstNotBelow_27 28 rfl rfl ?_
      refine xr_callS C (c_TK_compare k2 hk) k_TK_compare d_KM_firstNotBelow_28 31 rfl (Or.inr ⟨_, q_692⟩) s_TK_compare in_TK_compare h_TK_compare rfl ⟨Nat.le_of_ble_eq_true rfl, Nat.le_of_ble_eq_true rfl, Nat.le_of_ble_eq_true rfl⟩ (by omega) (by omega) (fun v9 X hP => ?_) (fun _ _ h => by obtain ⟨v, h, -⟩ := h; cases h)
      obtain ⟨v, h1, rfl, c1, c2⟩ := hP
      cases h1
      refine xr_if_lt C d_KM_firstNotBelow_31 34 36 rfl (by decide) (fun j31 => ?_) (fun j31 => ?_)
      · refine xr_iinc (v := 1) C d_KM_firstNotBelow_36 39 rfl rfl rfl rfl (by decide) ?_
        refine xr_goto C d_KM_firstNotBelow_39 2 (by decide) ?_
        refine xG.eqL (show _ = [some (Value.ref mp), some (Value.ref kq), some (Value.int (nI (i + 1)))] by rw [← nI_one]; rfl) ?_
        refine ih (i + 1) (by omega) (fun j hj => ?_)
        by_cases e : j = i
        · rw [e]
          exact c2.mp j31
        · exact h1 j (by omega)
      · refine xr_iload_n C d_KM_firstNotBelow_34 35 rfl rfl ?_
        exact xr_iret C d_KM_firstNotBelow_35 (by omega) (by omega) ⟨by rw [fnb_at (i := i) (by omega) h1 (fun _ => by cases hb : bl (eD es i).1 key with | false => rfl | true => exact absurd (c2.mpr hb) j31)], rfl⟩
  refine xr_iconst (v := 0) C d_KM_firstNotBelow_0 1 rfl (by decide) ?_
  refine xr_istore_n C d_KM_firstNotBelow_1 2 rfl rfl rfl ?_
  exact loop es.length 0 (by omega) (fun j hj => absurd hj (Nat.not_lt_zero _))
set_option maxRecDepth 100000 in
set_option maxHeartbeats 4000000 in
theorem c_KM_isAt {l : Launch} {D : va_G} {H0 : Heap} {X : xH} {mp la b cap : Nat} {as : List Nat} {es : List Es} {I : Nat → Option Imm} (hI : xIm D X I) (hM : xMap D X I mp la b cap as es) {kq j : Nat} {key : List Int32} (hk : xBy D X kq key) (hj : j ≤ 1000) : xMet l D H0 y_KM_isAt b_KM_isAt 3 (some .boolean) [] 3 0 0 [.ref mp, .int (nI j), .ref kq] X (fun o X' => o = .inl (some (.int (if j < es.length ∧ (eD es j).1 = key then 1 else 0))) ∧ X' = X) := by
  obtain ⟨hmp, hL, hE, hok⟩ := hM
  obtain ⟨vl, hl⟩ := hL.ob
  have hlen := hE.1
  have hle := hL.len
  refine ⟨[some (.ref mp), some (.int (nI j)), some (.ref kq)], rfl, Nat.le_of_ble_eq_true rfl, fun E hD hH hl _ C => ?_⟩
  subst hD
  subst hH
  subst hl
  have no : ¬ (j < es.length ∧ (eD es j).1 = key) → xG E X 0 0 36 [some (.ref mp), some (.int (nI j)), some (.ref kq)] [] := by
    intro h
    refine xr_iconst (v := 0) C d_KM_isAt_36 37 rfl (by decide) ?_
    exact xr_zret C d_KM_isAt_37 rfl (by omega) (by omega) ⟨by rw [if_neg h], rfl⟩
  refine xr_iload_n C d_KM_isAt_0 1 rfl rfl ?_
  refine xr_aload_n C d_KM_isAt_1 2 rfl rfl ?_
  refine xr_get C K_KM 0 d_KM_isAt_2 5 rfl q_77 (Or.inl rfl) rfl (by first | assumption | exact xup_self | exact (xup_ne (by assumption)).trans (by assumption) | exact (xup_ne (Ne.symm (by assumption))).trans (by assumption) | exact (xup_ne (by assumption)).trans xup_self | exact (xup_ne (Ne.symm (by assumption))).trans xup_self) rfl ?_
  refine xr_callV C (l_size hL) k_AL_size d_KM_isAt_5 8 rfl (by first | assumption | exact xup_self | exact (xup_ne (by assumption)).trans (by assumption) | exact (xup_ne (Ne.symm (by assumption))).trans (by assumption) | exact (xup_ne (by assumption)).trans xup_self | exact (xup_ne (Ne.symm (by assumption))).trans xup_self) rfl (Or.inl q_689) v_AL_size e_AL_size h_AL_size rfl ⟨Nat.le_of_ble_eq_true rfl, Nat.le_of_ble_eq_true rfl, Nat.le_of_ble_eq_true rfl⟩ (by omega) (by omega) (fun v9 X hP => ?_) (fun _ _ h => absurd h.1 (by simp))
  obtain ⟨h1, rfl⟩ := hP
  cases h1
  refine xr_icmp_ge C d_KM_isAt_8 11 36 rfl (by decide) (fun h => no (fun q => nI_ge (show j < as.length by omega) (by omega) h)) (fun h8 => ?_)
  have i1 : j < as.length := by
    rcases Nat.lt_or_ge j as.length with h | h
    · exact h
    · exact absurd (nI_le h (by omega)) h8
  obtain ⟨p, q, k1, k2, k3, -⟩ := (hE.2 j i1).use hI
  refine xr_aload_n C d_KM_isAt_11 12 rfl rfl ?_
  refine xr_get C K_KM 0 d_KM_isAt_12 15 rfl q_77 (Or.inl rfl) rfl (by first | assumption | exact xup_self | exact (xup_ne (by assumption)).trans (by assumption) | exact (xup_ne (Ne.symm (by assumption))).trans (by assumption) | exact (xup_ne (by assumption)).trans xup_self | exact (xup_ne (Ne.symm (by assumption))).trans xup_self) rfl ?_
  refine xr_iload_n C d_KM_isAt_15 16 rfl rfl ?_
  refine xr_callV C (l_get hL i1) k_AL_get d_KM_isAt_16 19 rfl (by first | assumption | exact xup_self | exact (xup_ne (by assumption)).trans (by assumption) | exact (xup_ne (Ne.symm (by assumption))).trans (by assumption) | exact (xup_ne (by assumption)).trans xup_self | exact (xup_ne (Ne.symm (by assumption))).trans xup_self) rfl (Or.inl q_690) v_AL_get e_AL_get h_AL_get rfl ⟨Nat.le_of_ble_eq_true rfl, Nat.le_of_ble_eq_true rfl, Nat.le_of_ble_eq_true rfl⟩ (by omega) (by omega) (fun v9 X hP => ?_) (fun _ _ h => absurd h.1 (by simp))
  obtain ⟨h1, rfl⟩ := hP
  cases h1
  refine xr_cast C d_KM_isAt_19 22 rfl k1 rfl q_691 ?_
  refine xr_get C K_En 0 d_KM_isAt_22 25 rfl q_711 (Or.inl rfl) rfl (by first | assumption | exact xup_self | exact (xup_ne (by assumption)).trans (by assumption) | exact (xup_ne (Ne.symm (by assumption))).trans (by assumption) | exact (xup_ne (by assumption)).trans xup_self | exact (xup_ne (Ne.symm (by assumption))).trans xup_self) rfl ?_
  refine xr_aload_n C d_KM_isAt_25 26 rfl rfl ?_
  refine xr_callS C (c_TK_compare k2 hk) k_TK_compare d_KM_isAt_26 29 rfl (Or.inr ⟨_, q_692⟩) s_TK_compare in_TK_compare h_TK_compare rfl ⟨Nat.le_of_ble_eq_true rfl, Nat.le_of_ble_eq_true rfl, Nat.le_of_ble_eq_true rfl⟩ (by omega) (by omega) (fun v9 X hP => ?_) (fun _ _ h => by obtain ⟨v, h, -⟩ := h; cases h)
  obtain ⟨v, h1, rfl, c1, c2⟩ := hP
  cases h1
  refine xr_if_ne C d_KM_isAt_29 32 36 rfl (by decide) (fun j5 => no (fun q => j5 (c1.mpr q.2))) (fun j5 => ?_)
  refine xr_iconst (v := 1) C d_KM_isAt_32 33 rfl (by decide) ?_
  refine xr_goto C d_KM_isAt_33 37 (by decide) ?_
  exact xr_zret C d_KM_isAt_37 rfl (by omega) (by omega) ⟨by rw [if_pos ⟨by omega, c1.mp j5⟩], rfl⟩
set_option maxRecDepth 100000 in
set_option maxHeartbeats 4000000 in
theorem c_KM_indexOf {l : Launch} {D : va_G} {H0 : Heap} {X : xH} {mp la b cap : Nat} {as : List Nat} {es : List Es} {I : Nat → Option Imm} (hI : xIm D X I) (hM : xMap D X I mp la b cap as es) {kq : Nat} {key : List Int32} (hk : xBy D X kq key) : xMet l D H0 y_KM_indexOf b_KM_indexOf 3 (some .int) [] 4 0 0 [.ref mp, .ref kq] X (fun o X' => o = .inl (some (.int (ixK es key))) ∧ X' = X) := by
  have hmp := hM.1
  have hfl := fnb_le key es
  have hok := hM.2.2.2.1
  refine ⟨[some (.ref mp), some (.ref kq), none], rfl, Nat.le_of_ble_eq_true rfl, fun E hD hH hl _ C => ?_⟩
  subst hD
  subst hH
  subst hl
  refine xr_aload_n C d_KM_indexOf_0 1 rfl rfl ?_
  refine xr_aload_n C d_KM_indexOf_1 2 rfl rfl ?_
  refine xr_callV C (c_KM_firstNotBelow hI hM hk) k_KM_firstNotBelow d_KM_indexOf_2 5 rfl (by first | assumption | exact xup_self | exact (xup_ne (by assumption)).trans (by assumption) | exact (xup_ne (Ne.symm (by assumption))).trans (by assumption) | exact (xup_ne (by assumption)).trans xup_self | exact (xup_ne (Ne.symm (by assumption))).trans xup_self) rfl (Or.inl q_685) v_KM_firstNotBelow e_KM_firstNotBelow h_KM_firstNotBelow rfl ⟨Nat.le_of_ble_eq_true rfl, Nat.le_of_ble_eq_true rfl, Nat.le_of_ble_eq_true rfl⟩ (by omega) (by omega) (fun v9 X hP => ?_) (fun _ _ h => absurd h.1 (by simp))
  obtain ⟨h1, rfl⟩ := hP
  cases h1
  refine xr_istore_n C d_KM_indexOf_5 6 rfl rfl rfl ?_
  refine xr_aload_n C d_KM_indexOf_6 7 rfl rfl ?_
  refine xr_iload_n C d_KM_indexOf_7 8 rfl rfl ?_
  refine xr_aload_n C d_KM_indexOf_8 9 rfl rfl ?_
  refine xr_callV C (c_KM_isAt hI hM hk (by omega)) k_KM_isAt d_KM_indexOf_9 12 rfl (by first | assumption | exact xup_self | exact (xup_ne (by assumption)).trans (by assumption) | exact (xup_ne (Ne.symm (by assumption))).trans (by assumption) | exact (xup_ne (by assumption)).trans xup_self | exact (xup_ne (Ne.symm (by assumption))).trans xup_self) rfl (Or.inl q_696) v_KM_isAt e_KM_isAt h_KM_isAt rfl ⟨Nat.le_of_ble_eq_true rfl, Nat.le_of_ble_eq_true rfl, Nat.le_of_ble_eq_true rfl⟩ (by omega) (by omega) (fun v9 X hP => ?_) (fun _ _ h => absurd h.1 (by simp))
  obtain ⟨h1, rfl⟩ := hP
  cases h1
  by_cases hc : fnb es key < es.length ∧ (eD es (fnb es key)).1 = key
  · refine xr_toi (if_pos hc) ?_
    refine xr_if_eq C d_KM_indexOf_12 15 19 rfl (by decide) (fun h => absurd h (by decide)) (fun _ => ?_)
    refine xr_iload_n C d_KM_indexOf_15 16 rfl rfl ?_
    refine xr_goto C d_KM_indexOf_16 20 (by decide) ?_
    exact xr_iret C d_KM_indexOf_20 (by omega) (by omega) ⟨by unfold ixK; rw [if_pos hc], rfl⟩
  · refine xr_toi (if_neg hc) ?_
    refine xr_if_eq C d_KM_indexOf_12 15 19 rfl (by decide) (fun _ => ?_) (fun h => absurd rfl h)
    refine xr_iconst (v := (-1)) C d_KM_indexOf_19 20 rfl (by decide) ?_
    exact xr_iret C d_KM_indexOf_20 (by omega) (by omega) ⟨by unfold ixK; rw [if_neg hc], rfl⟩
