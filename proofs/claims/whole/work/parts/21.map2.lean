/-! The map: its answers. -/
theorem xRow.ge {D : va_G} {X : xH} {r b cap : Nat} {bs : List Int32} (h : xRow D X r b cap bs) : 256 ≤ cap := by
  obtain ⟨f, -, -, h1, -, -, h4, h5⟩ := h
  exact h4
/-- a row with more in it, all else as it was -/
def xRs (D : va_G) (X X' : xH) (I : Nat → Option Imm) (r br rc : Nat) (bs : List Int32) : Prop := ∃ br' : Nat, xRow D X' r br' rc bs ∧ I br' = none ∧ xIm D X' I ∧ xFr [r, br] X X' ∧ (br' = br ∨ X br' = none)
theorem xFr.fr {S S' : List Nat} {X X1 X2 : xH} (h1 : xFr S X X1) (h2 : xFr S' X1 X2) (h : ∀ q ∈ S', q ∈ S ∨ X q = none) : xFr S X X2 := ⟨fun q v hq hn => by
  refine h2.1 q v (h1.1 q v hq hn) (hn.imp (fun hs hm => ?_) id)
  rcases h q hm with e | e
  · exact hs e
  · rw [e] at hq
    exact absurd hq (by simp), fun q hq => h1.2 q (h2.2 q hq)⟩
theorem xRs.then {D : va_G} {X X1 X2 : xH} {I : Nat → Option Imm} {r br b1 rc : Nat} {bs2 : List Int32} (hf : xFr [r, br] X X1) (hb : b1 = br ∨ X b1 = none) (h2 : xRs D X1 X2 I r b1 rc bs2) : xRs D X X2 I r br rc bs2 := by
  obtain ⟨b2, a1, a2, a3, a4, a5⟩ := h2
  refine ⟨b2, a1, a2, a3, hf.fr a4 (fun q hq => ?_), ?_⟩
  · rcases List.mem_cons.mp hq with e | e
    · exact Or.inl (by rw [e]; simp)
    · rw [show q = b1 by simpa using e]
      exact hb.imp (fun e => by rw [e]; simp) id
  · rcases a5 with e | e
    · rw [e]
      exact hb
    · exact Or.inr (hf.2 _ e)
def imX (X : xH) (I I' : Nat → Option Imm) : Prop := imLe I I' ∧ ∀ q c, X q = some c → I q = none → I' q = none
theorem imX.rf {X : xH} {I : Nat → Option Imm} : imX X I I := ⟨imLe.rf, fun _ _ _ h => h⟩
theorem imX.trans {X X1 : xH} {S : List Nat} {I I1 I2 : Nat → Option Imm} (h1 : imX X I I1) (hf : ∀ q c, X q = some c → ∃ c', X1 q = some c') (h2 : imX X1 I1 I2) : imX X I I2 := ⟨h1.1.trans h2.1, fun q c hq hi => by
  obtain ⟨c', hc'⟩ := hf q c hq
  exact h2.2 q c' hc' (h1.2 q c hq hi)⟩
theorem imX_up {D : va_G} {X : xH} {I : Nat → Option Imm} {q : Nat} {v : Imm} (hI : xIm D X I) (hq : X q = none) : imX X I (imUp I q v) := ⟨imUp_le (hI.non hq), fun p c hp hi => by
  rw [imUp_ne (fun e => by rw [e, hq] at hp; cases hp)]
  exact hi⟩
theorem xFr.dom {S : List Nat} {X X' : xH} (h : xFr S X X') : ∀ q c, X q = some c → ∃ c', X' q = some c' := fun q c hq => by
  cases e : X' q with
  | none =>
    rw [h.2 q e] at hq
    cases hq
  | some c' => exact ⟨c', rfl⟩
/-- a map after a change -/
def xMs (D : va_G) (X X' : xH) (I : Nat → Option Imm) (mp la b cap : Nat) (es' : List Es) : Prop := ∃ (I' : Nat → Option Imm) (b' cap' : Nat) (as' : List Nat), imX X I I' ∧ xIm D X' I' ∧ xMap D X' I' mp la b' cap' as' es' ∧ xFr [mp, la, b] X X' ∧ (b' = b ∨ X b' = none) ∧ cap ≤ cap'
/-- a map after a change, and a row with the answer -/
def xQ (D : va_G) (X X' : xH) (I : Nat → Option Imm) (r br rc mp la b cap : Nat) (es' : List Es) (ans : List Int32) : Prop := ∃ (I' : Nat → Option Imm) (b' cap' : Nat) (as' : List Nat) (br' : Nat), imX X I I' ∧ xIm D X' I' ∧ xMap D X' I' mp la b' cap' as' es' ∧ xRow D X' r br' rc ans ∧ I' br' = none ∧ xFr [mp, la, b, r, br] X X' ∧ (b' = b ∨ X b' = none) ∧ (br' = br ∨ X br' = none) ∧ cap ≤ cap'
theorem xRow.keepM {D : va_G} {X X' : xH} {I : Nat → Option Imm} {r br rc : Nat} {bs : List Int32} {mp l b cap : Nat} {as : List Nat} {es : List Es} (hR : xRow D X r br rc bs) (h : xMap D X I mp l b cap as es) (hf : xFr [mp, l, b] X X') : xRow D X' r br rc bs := by
  obtain ⟨vs, hl⟩ := h.2.1.ob
  obtain ⟨f, hb⟩ := h.2.1.ar
  obtain ⟨g, hr⟩ := hR.arr
  refine hR.keep hf ?_ ?_
  · simp only [List.mem_cons, List.not_mem_nil, or_false, not_or]
    exact ⟨xne hR.at h.1 (by intro h; cases h), xne hR.at hl (by intro h; cases h), xne hR.at hb (by intro h; cases h)⟩
  · simp only [List.mem_cons, List.not_mem_nil, or_false, not_or]
    exact ⟨xne hr h.1 (by intro h; cases h), xne hr hl (by intro h; cases h), (xne hb hr xkd).symm⟩
theorem xQ_mk {D : va_G} {X X1 X2 : xH} {I I1 : Nat → Option Imm} {r br rc mp la b cap b1 cap1 : Nat} {as1 : List Nat} {es1 : List Es} {bs ans : List Int32} (m1 : imX X I I1) (m3 : xMap D X1 I1 mp la b1 cap1 as1 es1) (m4 : xFr [mp, la, b] X X1) (m5 : b1 = b ∨ X b1 = none) (m6 : cap ≤ cap1) (hR1 : xRow D X1 r br rc bs) (h : xRs D X1 X2 I1 r br rc ans) : xQ D X X2 I r br rc mp la b cap es1 ans := by
  obtain ⟨br', a1, a2, a3, a4, a5⟩ := h
  refine ⟨I1, b1, cap1, as1, br', m1, a3, m3.keepR hR1 a4, a1, a2, (m4.mono ?_).trans (a4.mono ?_), m5, a5.imp id (fun e => m4.2 _ e), m6⟩
  · intro q hq
    simp only [List.mem_cons, List.not_mem_nil, or_false] at hq ⊢
    rcases hq with e | e | e
    · exact Or.inl e
    · exact Or.inr (Or.inl e)
    · exact Or.inr (Or.inr (Or.inl e))
  · intro q hq
    simp only [List.mem_cons, List.not_mem_nil, or_false] at hq ⊢
    exact Or.inr (Or.inr (Or.inr hq))
theorem xRs.q {D : va_G} {X X2 : xH} {I : Nat → Option Imm} {r br rc mp la b cap : Nat} {as : List Nat} {es : List Es} {bs ans : List Int32} (h : xRs D X X2 I r br rc ans) (m3 : xMap D X I mp la b cap as es) (hR : xRow D X r br rc bs) : xQ D X X2 I r br rc mp la b cap es ans := xQ_mk imX.rf m3 xFr.rf (Or.inl rfl) (Nat.le_refl _) hR h
theorem xAdd.rs {D : va_G} {X X' : xH} {I : Nat → Option Imm} {r b d : Nat} {bs : List Int32} (h : xAdd D X X' r b d bs) (hI : xIm D X I) (hr : I r = none) (hb : I b = none) : xRs D X X' I r b d bs := by
  obtain ⟨h7, b1, h8, h9⟩ := h.im hI hr hb
  obtain ⟨b', h1, h2, h3⟩ := h
  exact ⟨b', h1, h3.elim (fun e => by rw [e]; exact hb) (fun e => hI.non e), h7, h2, h3⟩
theorem xBy.ne {D : va_G} {X : xH} {I : Nat → Option Imm} {q b : Nat} {bs : List Int32} (h : I q = some (.inl bs)) (hb : I b = none) : q ≠ b := fun e => by
  rw [e, hb] at h
  cases h
set_option maxRecDepth 100000 in
set_option maxHeartbeats 4000000 in
theorem n_addNumber {l : Launch} {D : va_G} {H0 : Heap} {X : xH} {r br rc : Nat} {bs : List Int32} {I : Nat → Option Imm} (hI : xIm D X I) (hR : xRow D X r br rc bs) (hb : I br = none) {v : Int32} {n : Nat} (hn : n ≤ 4) (hfit : bs.length + n ≤ rc) : xMet l D H0 y_Ro_addNumber b_Ro_addNumber 4 none [] 2 0 0 [.ref r, .int v, .int (nI n)] X (fun o X' => o = .inl none ∧ xRs D X X' I r br rc (bs ++ num v n)) := by
  have h := c_Ro_addNumber (l := l) (H0 := H0) (v := v) hR hn (isR.rf hfit) hR.cap.2.1
  rw [Nat.sub_self] at h
  exact h.mono (fun r X' hP => ⟨hP.1, hP.2.rs hI (hR.nob hI) hb⟩)
set_option maxRecDepth 100000 in
set_option maxHeartbeats 4000000 in
theorem n_addAll {l : Launch} {D : va_G} {H0 : Heap} {X : xH} {r br rc : Nat} {bs : List Int32} {I : Nat → Option Imm} (hI : xIm D X I) (hR : xRow D X r br rc bs) (hb : I br = none) {q : Nat} {more : List Int32} (hq : I q = some (.inl more)) (hfit : bs.length + more.length ≤ rc) : xMet l D H0 y_Ro_addAll b_Ro_addAll 3 none [] 2 0 0 [.ref r, .ref q] X (fun o X' => o = .inl none ∧ xRs D X X' I r br rc (bs ++ more)) := by
  have h := c_Ro_addAll (l := l) (H0 := H0) hR (hI _ _ hq) (xBy.ne (D := D) (X := X) hq hb) (isR.rf hfit) hR.cap.2.1
  rw [Nat.sub_self] at h
  exact h.mono (fun r X' hP => ⟨hP.1, hP.2.rs hI (hR.nob hI) hb⟩)
def tvK (es : List Es) (k : List Int32) : List Int32 := if fnb es k < es.length ∧ (eD es (fnb es k)).1 = k then num 1 1 ++ (eD es (fnb es k)).2 else num 0 1
set_option maxRecDepth 100000 in
set_option maxHeartbeats 4000000 in
theorem c_KM_tellValue {l : Launch} {D : va_G} {H0 : Heap} {X : xH} {mp la b cap : Nat} {as : List Nat} {es : List Es} {I : Nat → Option Imm} (hI : xIm D X I) (hM : xMap D X I mp la b cap as es) {r br rc : Nat} (hR : xRow D X r br rc []) (hb : I br = none) {key : List Int32} : xMet l D H0 y_KM_tellValue b_KM_tellValue 3 none [] 3 0 0 [.ref mp, .int (ixK es key), .ref r] X (fun o X' => o = .inl none ∧ xRs D X X' I r br rc (tvK es key)) := by
  obtain ⟨hmp, hL, hE, hok⟩ := hM
  obtain ⟨vl, hl⟩ := hL.ob
  have hlen := hE.1
  have hle := hL.len
  have hrg := hR.ge
  refine ⟨[some (.ref mp), some (.int (ixK es key)), some (.ref r)], rfl, Nat.le_of_ble_eq_true rfl, fun E hD hH hl _ C => ?_⟩
  subst hD
  subst hH
  subst hl
  by_cases hc : fnb es key < es.length ∧ (eD es (fnb es key)).1 = key
  · have e0 : ixK es key = nI (fnb es key) := by unfold ixK; rw [if_pos hc]
    have e1 : tvK es key = ([] ++ num 1 1) ++ (eD es (fnb es key)).2 := by unfold tvK; rw [if_pos hc]; rfl
    refine xG.eqL (show _ = [some (.ref mp), some (.int (nI (fnb es key))), some (.ref r)] by rw [e0]) ?_
    refine xr_iload_n C d_KM_tellValue_0 1 rfl rfl ?_
    refine xr_iconst (v := (-1)) C d_KM_tellValue_1 2 rfl (by decide) ?_
    refine xr_icmp_ne C d_KM_tellValue_2 5 12 rfl (by decide) (fun _ => ?_) (fun h => absurd (show nI (fnb es key) < 0 by rw [h]; decide) (nI_pos (by omega)))
    refine xr_aload_n C d_KM_tellValue_12 13 rfl rfl ?_
    refine xr_iconst (v := 1) C d_KM_tellValue_13 14 rfl (by decide) ?_
    refine xr_iconst (v := 1) C d_KM_tellValue_14 15 rfl (by decide) ?_
    have hr0 := hR.at
    refine xr_callV C (n_addNumber (v := 1) (n := 1) hI hR hb (by omega) (by rw [List.length_nil]; omega)) k_Ro_addNumber d_KM_tellValue_15 18 rfl hr0 rfl (Or.inl q_751) v_Ro_addNumber e_Ro_addNumber h_Ro_addNumber rfl ⟨Nat.le_of_ble_eq_true rfl, Nat.le_of_ble_eq_true rfl, Nat.le_of_ble_eq_true rfl⟩ (by omega) (by omega) (fun v9 X' hP => ?_) (fun _ _ h => absurd h.1 (by simp))
    obtain ⟨e1, hS⟩ := hP
    cases e1
    obtain ⟨br1, hR1, hb1, hI1, hf1, hn1⟩ := hS
    have hM1 := (show xMap E.D X I mp la b cap as es from ⟨hmp, hL, hE, hok⟩).keepR hR hf1
    obtain ⟨hmp1, hL1, -, -⟩ := hM1
    obtain ⟨vl1, hl1⟩ := hL1.ob
    have i1 : fnb es key < as.length := by omega
    obtain ⟨p, q, k1, k2, k3, k4, k5⟩ := (hE.2 _ i1).use hI1
    have hr1 := hR1.at
    have hv := (hok.2.2 _ (eD_mem hc.1)).2.2
    refine xr_aload_n C d_KM_tellValue_18 19 rfl rfl ?_
    refine xr_aload_n C d_KM_tellValue_19 20 rfl rfl ?_
    refine xr_get C K_KM 0 d_KM_tellValue_20 23 rfl q_77 (Or.inl rfl) rfl (by first | assumption | exact xup_self | exact (xup_ne (by assumption)).trans (by assumption) | exact (xup_ne (Ne.symm (by assumption))).trans (by assumption) | exact (xup_ne (by assumption)).trans xup_self | exact (xup_ne (Ne.symm (by assumption))).trans xup_self) rfl ?_
    refine xr_iload_n C d_KM_tellValue_23 24 rfl rfl ?_
    refine xr_callV C (l_get hL1 i1) k_AL_get d_KM_tellValue_24 27 rfl (by first | assumption | exact xup_self | exact (xup_ne (by assumption)).trans (by assumption) | exact (xup_ne (Ne.symm (by assumption))).trans (by assumption) | exact (xup_ne (by assumption)).trans xup_self | exact (xup_ne (Ne.symm (by assumption))).trans xup_self) rfl (Or.inl q_690) v_AL_get e_AL_get h_AL_get rfl ⟨Nat.le_of_ble_eq_true rfl, Nat.le_of_ble_eq_true rfl, Nat.le_of_ble_eq_true rfl⟩ (by omega) (by omega) (fun v9 X' hP => ?_) (fun _ _ h => absurd h.1 (by simp))
    obtain ⟨h1, rfl⟩ := hP
    cases h1
    refine xr_cast C d_KM_tellValue_27 30 rfl k1 rfl q_691 ?_
    refine xr_get C K_En 1 d_KM_tellValue_30 33 rfl q_714 (Or.inl rfl) rfl (by first | assumption | exact xup_self | exact (xup_ne (by assumption)).trans (by assumption) | exact (xup_ne (Ne.symm (by assumption))).trans (by assumption) | exact (xup_ne (by assumption)).trans xup_self | exact (xup_ne (Ne.symm (by assumption))).trans xup_self) rfl ?_
    refine xr_callV C (n_addAll hI1 hR1 hb1 k5 (by rw [List.length_append, num_len, List.length_nil]; omega)) k_Ro_addAll d_KM_tellValue_33 36 rfl hr1 rfl (Or.inl q_755) v_Ro_addAll e_Ro_addAll h_Ro_addAll rfl ⟨Nat.le_of_ble_eq_true rfl, Nat.le_of_ble_eq_true rfl, Nat.le_of_ble_eq_true rfl⟩ (by omega) (by omega) (fun v9 X' hP => ?_) (fun _ _ h => absurd h.1 (by simp))
    obtain ⟨e2, hS⟩ := hP
    cases e2
    rw [← e1] at hS
    exact xr_vret C d_KM_tellValue_36 (by omega) (by omega) ⟨rfl, xRs.then hf1 hn1 hS⟩
  · have e0 : ixK es key = -1 := by unfold ixK; rw [if_neg hc]
    have e1 : tvK es key = [] ++ num 0 1 := by unfold tvK; rw [if_neg hc]; rfl
    refine xG.eqL (show _ = [some (.ref mp), some (.int (-1)), some (.ref r)] by rw [e0]) ?_
    refine xr_iload_n C d_KM_tellValue_0 1 rfl rfl ?_
    refine xr_iconst (v := (-1)) C d_KM_tellValue_1 2 rfl (by decide) ?_
    refine xr_icmp_ne C d_KM_tellValue_2 5 12 rfl (by decide) (fun h => absurd rfl h) (fun _ => ?_)
    refine xr_aload_n C d_KM_tellValue_5 6 rfl rfl ?_
    refine xr_iconst (v := 0) C d_KM_tellValue_6 7 rfl (by decide) ?_
    refine xr_iconst (v := 1) C d_KM_tellValue_7 8 rfl (by decide) ?_
    have hr0 := hR.at
    refine xr_callV C (n_addNumber (v := 0) (n := 1) hI hR hb (by omega) (by rw [List.length_nil]; omega)) k_Ro_addNumber d_KM_tellValue_8 11 rfl hr0 rfl (Or.inl q_751) v_Ro_addNumber e_Ro_addNumber h_Ro_addNumber rfl ⟨Nat.le_of_ble_eq_true rfl, Nat.le_of_ble_eq_true rfl, Nat.le_of_ble_eq_true rfl⟩ (by omega) (by omega) (fun v9 X' hP => ?_) (fun _ _ h => absurd h.1 (by simp))
    obtain ⟨e1, hS⟩ := hP
    cases e1
    rw [← e1] at hS
    exact xr_vret C d_KM_tellValue_11 (by omega) (by omega) ⟨rfl, hS⟩
set_option maxRecDepth 100000 in
set_option maxHeartbeats 4000000 in
theorem c_KM_get {l : Launch} {D : va_G} {H0 : Heap} {X : xH} {mp la b cap : Nat} {as : List Nat} {es : List Es} {I : Nat → Option Imm} (hI : xIm D X I) (hM : xMap D X I mp la b cap as es) {r br rc : Nat} (hR : xRow D X r br rc []) (hb : I br = none) {kq : Nat} {key : List Int32} (hk : I kq = some (.inl key)) : xMet l D H0 y_KM_get b_KM_get 3 none [] 5 0 0 [.ref mp, .ref kq, .ref r] X (fun o X' => o = .inl none ∧ xQ D X X' I r br rc mp la b cap es (tvK es key)) := by
  have hmp := hM.1
  refine ⟨[some (.ref mp), some (.ref kq), some (.ref r)], rfl, Nat.le_of_ble_eq_true rfl, fun E hD hH hl _ C => ?_⟩
  subst hD
  subst hH
  subst hl
  refine xr_aload_n C d_KM_get_0 1 rfl rfl ?_
  refine xr_aload_n C d_KM_get_1 2 rfl rfl ?_
  refine xr_aload_n C d_KM_get_2 3 rfl rfl ?_
  refine xr_callV C (c_KM_indexOf hI hM (hI _ _ hk)) k_KM_indexOf d_KM_get_3 6 rfl (by first | assumption | exact xup_self | exact (xup_ne (by assumption)).trans (by assumption) | exact (xup_ne (Ne.symm (by assumption))).trans (by assumption) | exact (xup_ne (by assumption)).trans xup_self | exact (xup_ne (Ne.symm (by assumption))).trans xup_self) rfl (Or.inl q_760) v_KM_indexOf e_KM_indexOf h_KM_indexOf rfl ⟨Nat.le_of_ble_eq_true rfl, Nat.le_of_ble_eq_true rfl, Nat.le_of_ble_eq_true rfl⟩ (by omega) (by omega) (fun v9 X hP => ?_) (fun _ _ h => absurd h.1 (by simp))
  obtain ⟨h1, rfl⟩ := hP
  cases h1
  refine xr_aload_n C d_KM_get_6 7 rfl rfl ?_
  refine xr_callV C (c_KM_tellValue hI hM hR hb) k_KM_tellValue d_KM_get_7 10 rfl (by first | assumption | exact xup_self | exact (xup_ne (by assumption)).trans (by assumption) | exact (xup_ne (Ne.symm (by assumption))).trans (by assumption) | exact (xup_ne (by assumption)).trans xup_self | exact (xup_ne (Ne.symm (by assumption))).trans xup_self) rfl (Or.inl q_768) v_KM_tellValue e_KM_tellValue h_KM_tellValue rfl ⟨Nat.le_of_ble_eq_true rfl, Nat.le_of_ble_eq_true rfl, Nat.le_of_ble_eq_true rfl⟩ (by omega) (by omega) (fun v9 X' hP => ?_) (fun _ _ h => absurd h.1 (by simp))
  obtain ⟨e1, hS⟩ := hP
  cases e1
  exact xr_vret C d_KM_get_10 (by omega) (by omega) ⟨rfl, hS.q hM hR⟩
set_option maxRecDepth 100000 in
set_option maxHeartbeats 4000000 in
theorem c_KM_count {l : Launch} {D : va_G} {H0 : Heap} {X : xH} {mp la b cap : Nat} {as : List Nat} {es : List Es} {I : Nat → Option Imm} (hI : xIm D X I) (hM : xMap D X I mp la b cap as es) {r br rc : Nat} (hR : xRow D X r br rc []) (hb : I br = none) {lq hq : Nat} {low high : List Int32} (hlo : I lq = some (.inl low)) (hhi : I hq = some (.inl high)) : xMet l D H0 y_KM_count b_KM_count 4 none [] 4 0 0 [.ref mp, .ref lq, .ref hq, .ref r] X (fun o X' => o = .inl none ∧ xQ D X X' I r br rc mp la b cap es (num (nI (fnb es high - fnb es low)) 2)) := by
  have hmp := hM.1
  have hrg := hR.ge
  have hok := hM.2.2.2.1
  have f1 := fnb_le low es
  have f2 := fnb_le high es
  refine ⟨[some (.ref mp), some (.ref lq), some (.ref hq), some (.ref r)], rfl, Nat.le_of_ble_eq_true rfl, fun E hD hH hl _ C => ?_⟩
  subst hD
  subst hH
  subst hl
  refine xr_aload_n C d_KM_count_0 1 rfl rfl ?_
  refine xr_iconst (v := 0) C d_KM_count_1 2 rfl (by decide) ?_
  refine xr_aload_n C d_KM_count_2 3 rfl rfl ?_
  refine xr_aload_n C d_KM_count_3 4 rfl rfl ?_
  refine xr_callV C (c_KM_firstNotBelow hI hM (hI _ _ hhi)) k_KM_firstNotBelow d_KM_count_4 7 rfl (by first | assumption | exact xup_self | exact (xup_ne (by assumption)).trans (by assumption) | exact (xup_ne (Ne.symm (by assumption))).trans (by assumption) | exact (xup_ne (by assumption)).trans xup_self | exact (xup_ne (Ne.symm (by assumption))).trans xup_self) rfl (Or.inl q_685) v_KM_firstNotBelow e_KM_firstNotBelow h_KM_firstNotBelow rfl ⟨Nat.le_of_ble_eq_true rfl, Nat.le_of_ble_eq_true rfl, Nat.le_of_ble_eq_true rfl⟩ (by omega) (by omega) (fun v9 X hP => ?_) (fun _ _ h => absurd h.1 (by simp))
  obtain ⟨h1, rfl⟩ := hP
  cases h1
  refine xr_aload_n C d_KM_count_7 8 rfl rfl ?_
  refine xr_aload_n C d_KM_count_8 9 rfl rfl ?_
  refine xr_callV C (c_KM_firstNotBelow hI hM (hI _ _ hlo)) k_KM_firstNotBelow d_KM_count_9 12 rfl (by first | assumption | exact xup_self | exact (xup_ne (by assumption)).trans (by assumption) | exact (xup_ne (Ne.symm (by assumption))).trans (by assumption) | exact (xup_ne (by assumption)).trans xup_self | exact (xup_ne (Ne.symm (by assumption))).trans xup_self) rfl (Or.inl q_685) v_KM_firstNotBelow e_KM_firstNotBelow h_KM_firstNotBelow rfl ⟨Nat.le_of_ble_eq_true rfl, Nat.le_of_ble_eq_true rfl, Nat.le_of_ble_eq_true rfl⟩ (by omega) (by omega) (fun v9 X hP => ?_) (fun _ _ h => absurd h.1 (by simp))
  obtain ⟨h1, rfl⟩ := hP
  cases h1
  refine xr_isub C d_KM_count_12 13 rfl ?_
  refine xr_max C d_KM_count_13 16 rfl q_807 w_max (Nat.le_of_ble_eq_true rfl) (by omega) (by omega) ?_
  refine xr_toi (show _ = nI (fnb es high - fnb es low) from by
    by_cases h : fnb es low < fnb es high
    · rw [pk_sub (by omega)]
      exact if_pos (show nI 0 < nI (fnb es high - fnb es low) from nI_lt (by omega) (by omega))
    · rw [show fnb es high - fnb es low = 0 by omega, if_neg]
      · rfl
      · intro h2
        rw [Int32.lt_iff_toInt_lt, pk_sub_toInt (by omega) (by omega)] at h2
        have h3 : (0 : Int) < (fnb es high : Int) - fnb es low := h2
        omega) ?_
  refine xr_iconst (v := 2) C d_KM_count_16 17 rfl (by decide) ?_
  have hr0 := hR.at
  refine xr_callV C (n_addNumber (n := 2) hI hR hb (by omega) (by rw [List.length_nil]; omega)) k_Ro_addNumber d_KM_count_17 20 rfl hr0 rfl (Or.inl q_751) v_Ro_addNumber e_Ro_addNumber h_Ro_addNumber rfl ⟨Nat.le_of_ble_eq_true rfl, Nat.le_of_ble_eq_true rfl, Nat.le_of_ble_eq_true rfl⟩ (by omega) (by omega) (fun v9 X' hP => ?_) (fun _ _ h => absurd h.1 (by simp))
  obtain ⟨e1, hS⟩ := hP
  cases e1
  rw [List.nil_append] at hS
  exact xr_vret C d_KM_count_20 (by omega) (by omega) ⟨rfl, hS.q hM hR⟩
def nxK (es : List Es) (k : List Int32) : List Int32 := if fnb es k < es.length then num 1 1 ++ num (nI (eD es (fnb es k)).1.length) 1 ++ (eD es (fnb es k)).1 ++ (eD es (fnb es k)).2 else num 0 1
set_option maxRecDepth 100000 in
set_option maxHeartbeats 4000000 in
theorem c_KM_next {l : Launch} {D : va_G} {H0 : Heap} {X : xH} {mp la b cap : Nat} {as : List Nat} {es : List Es} {I : Nat → Option Imm} (hI : xIm D X I) (hM : xMap D X I mp la b cap as es) {r br rc : Nat} (hR : xRow D X r br rc []) (hb : I br = none) {kq : Nat} {key : List Int32} (hk : I kq = some (.inl key)) : xMet l D H0 y_KM_next b_KM_next 5 none [] 4 0 0 [.ref mp, .ref kq, .ref r] X (fun o X' => o = .inl none ∧ xQ D X X' I r br rc mp la b cap es (nxK es key)) := by
  have hM0 := hM
  obtain ⟨hmp, hL, hE, hok⟩ := hM
  obtain ⟨vl, hl⟩ := hL.ob
  have hlen := hE.1
  have hle := hL.len
  have hrg := hR.ge
  have hfl := fnb_le key es
  refine ⟨[some (.ref mp), some (.ref kq), some (.ref r), none, none], rfl, Nat.le_of_ble_eq_true rfl, fun E hD hH hl _ C => ?_⟩
  subst hD
  subst hH
  subst hl
  refine xr_aload_n C d_KM_next_0 1 rfl rfl ?_
  refine xr_aload_n C d_KM_next_1 2 rfl rfl ?_
  refine xr_callV C (c_KM_firstNotBelow hI hM0 (hI _ _ hk)) k_KM_firstNotBelow d_KM_next_2 5 rfl (by first | assumption | exact xup_self | exact (xup_ne (by assumption)).trans (by assumption) | exact (xup_ne (Ne.symm (by assumption))).trans (by assumption) | exact (xup_ne (by assumption)).trans xup_self | exact (xup_ne (Ne.symm (by assumption))).trans xup_self) rfl (Or.inl q_685) v_KM_firstNotBelow e_KM_firstNotBelow h_KM_firstNotBelow rfl ⟨Nat.le_of_ble_eq_true rfl, Nat.le_of_ble_eq_true rfl, Nat.le_of_ble_eq_true rfl⟩ (by omega) (by omega) (fun v9 X hP => ?_) (fun _ _ h => absurd h.1 (by simp))
  obtain ⟨h1, rfl⟩ := hP
  cases h1
  refine xr_istore_n C d_KM_next_5 6 rfl rfl rfl ?_
  refine xr_iload_n C d_KM_next_6 7 rfl rfl ?_
  refine xr_aload_n C d_KM_next_7 8 rfl rfl ?_
  refine xr_get C K_KM 0 d_KM_next_8 11 rfl q_77 (Or.inl rfl) rfl (by first | assumption | exact xup_self | exact (xup_ne (by assumption)).trans (by assumption) | exact (xup_ne (Ne.symm (by assumption))).trans (by assumption) | exact (xup_ne (by assumption)).trans xup_self | exact (xup_ne (Ne.symm (by assumption))).trans xup_self) rfl ?_
  refine xr_callV C (l_size hL) k_AL_size d_KM_next_11 14 rfl (by first | assumption | exact xup_self | exact (xup_ne (by assumption)).trans (by assumption) | exact (xup_ne (Ne.symm (by assumption))).trans (by assumption) | exact (xup_ne (by assumption)).trans xup_self | exact (xup_ne (Ne.symm (by assumption))).trans xup_self) rfl (Or.inl q_689) v_AL_size e_AL_size h_AL_size rfl ⟨Nat.le_of_ble_eq_true rfl, Nat.le_of_ble_eq_true rfl, Nat.le_of_ble_eq_true rfl⟩ (by omega) (by omega) (fun v9 X hP => ?_) (fun _ _ h => absurd h.1 (by simp))
  obtain ⟨h1, rfl⟩ := hP
  cases h1
  refine xr_icmp_lt C d_KM_next_14 17 24 rfl (by decide) (fun h14 => ?_) (fun h14 => ?_)
  · have i1 : fnb es key < as.length := (nI_ltI (by omega) (by omega)).mp h14
    have i2 : fnb es key < es.length := by omega
    have hv := hok.2.2 _ (eD_mem i2)
    obtain ⟨p0, q0, k10, -⟩ := (hE.2 _ i1).use hI
    have e1 : nxK es key = (([] ++ num 1 1) ++ num (nI (eD es (fnb es key)).1.length) 1 ++ (eD es (fnb es key)).1) ++ (eD es (fnb es key)).2 := by unfold nxK; rw [if_pos i2]; rfl
    refine xr_aload_n C d_KM_next_24 25 rfl rfl ?_
    refine xr_get C K_KM 0 d_KM_next_25 28 rfl q_77 (Or.inl rfl) rfl (by first | assumption | exact xup_self | exact (xup_ne (by assumption)).trans (by assumption) | exact (xup_ne (Ne.symm (by assumption))).trans (by assumption) | exact (xup_ne (by assumption)).trans xup_self | exact (xup_ne (Ne.symm (by assumption))).trans xup_self) rfl ?_
    refine xr_iload_n C d_KM_next_28 29 rfl rfl ?_
    refine xr_callV C (l_get hL i1) k_AL_get d_KM_next_29 32 rfl (by first | assumption | exact xup_self | exact (xup_ne (by assumption)).trans (by assumption) | exact (xup_ne (Ne.symm (by assumption))).trans (by assumption) | exact (xup_ne (by assumption)).trans xup_self | exact (xup_ne (Ne.symm (by assumption))).trans xup_self) rfl (Or.inl q_690) v_AL_get e_AL_get h_AL_get rfl ⟨Nat.le_of_ble_eq_true rfl, Nat.le_of_ble_eq_true rfl, Nat.le_of_ble_eq_true rfl⟩ (by omega) (by omega) (fun v9 X hP => ?_) (fun _ _ h => absurd h.1 (by simp))
    obtain ⟨h1, rfl⟩ := hP
    cases h1
    refine xr_cast C d_KM_next_32 35 rfl k10 rfl q_691 ?_
    refine xr_astore C d_KM_next_35 37 rfl rfl rfl ?_
    refine xr_aload_n C d_KM_next_37 38 rfl rfl ?_
    refine xr_iconst (v := 1) C d_KM_next_38 39 rfl (by decide) ?_
    refine xr_iconst (v := 1) C d_KM_next_39 40 rfl (by decide) ?_
    have hr0 := hR.at
    refine xr_callV C (n_addNumber (v := 1) (n := 1) hI hR hb (by omega) (by rw [List.length_nil]; omega)) k_Ro_addNumber d_KM_next_40 43 rfl hr0 rfl (Or.inl q_751) v_Ro_addNumber e_Ro_addNumber h_Ro_addNumber rfl ⟨Nat.le_of_ble_eq_true rfl, Nat.le_of_ble_eq_true rfl, Nat.le_of_ble_eq_true rfl⟩ (by omega) (by omega) (fun v9 X' hP => ?_) (fun _ _ h => absurd h.1 (by simp))
    obtain ⟨e1, hS⟩ := hP
    cases e1
    have hS0 := hS
    obtain ⟨br1, hR1, hb1, hI1, hf1, hn1⟩ := hS
    have hr1 := hR1.at
    obtain ⟨p, q, k1, k2, k3, k4, k5⟩ := (hE.2 _ i1).use hI1
    obtain ⟨fp, k6⟩ := k2.ar
    refine xr_aload_n C d_KM_next_43 44 rfl rfl ?_
    refine xr_aload C d_KM_next_44 46 rfl rfl ?_
    refine xr_get C K_En 0 d_KM_next_46 49 rfl q_711 (Or.inl rfl) rfl (by first | assumption | exact xup_self | exact (xup_ne (by assumption)).trans (by assumption) | exact (xup_ne (Ne.symm (by assumption))).trans (by assumption) | exact (xup_ne (by assumption)).trans xup_self | exact (xup_ne (Ne.symm (by assumption))).trans xup_self) rfl ?_
    refine xr_alen (t0 := 0) C rfl d_KM_next_49 50 rfl k6 ?_
    refine xr_iconst (v := 1) C d_KM_next_50 51 rfl (by decide) ?_
    refine xr_callV C (n_addNumber (v := nI (eD es (fnb es key)).1.length) (n := 1) hI1 hR1 hb1 (by omega) (by simp only [List.length_append, num_len, List.length_nil]; omega)) k_Ro_addNumber d_KM_next_51 54 rfl hr1 rfl (Or.inl q_751) v_Ro_addNumber e_Ro_addNumber h_Ro_addNumber rfl ⟨Nat.le_of_ble_eq_true rfl, Nat.le_of_ble_eq_true rfl, Nat.le_of_ble_eq_true rfl⟩ (by omega) (by omega) (fun v9 X' hP => ?_) (fun _ _ h => absurd h.1 (by simp))
    obtain ⟨e2, hS2⟩ := hP
    cases e2
    replace hS2 := xRs.then hf1 hn1 hS2
    clear hS0 hR1 hb1 hI1 hf1 hn1 hr1 k1 k2 k3 k4 k5 k6
    have hS := hS2
    clear hS2
    have hS0 := hS
    obtain ⟨br1, hR1, hb1, hI1, hf1, hn1⟩ := hS
    have hr1 := hR1.at
    obtain ⟨p, q, k1, k2, k3, k4, k5⟩ := (hE.2 _ i1).use hI1
    obtain ⟨fp, k6⟩ := k2.ar
    refine xr_aload_n C d_KM_next_54 55 rfl rfl ?_
    refine xr_aload C d_KM_next_55 57 rfl rfl ?_
    refine xr_get C K_En 0 d_KM_next_57 60 rfl q_711 (Or.inl rfl) rfl (by first | assumption | exact xup_self | exact (xup_ne (by assumption)).trans (by assumption) | exact (xup_ne (Ne.symm (by assumption))).trans (by assumption) | exact (xup_ne (by assumption)).trans xup_self | exact (xup_ne (Ne.symm (by assumption))).trans xup_self) rfl ?_
    refine xr_callV C (n_addAll hI1 hR1 hb1 k4 (by simp only [List.length_append, num_len, List.length_nil]; have := hv.2.1; omega)) k_Ro_addAll d_KM_next_60 63 rfl hr1 rfl (Or.inl q_755) v_Ro_addAll e_Ro_addAll h_Ro_addAll rfl ⟨Nat.le_of_ble_eq_true rfl, Nat.le_of_ble_eq_true rfl, Nat.le_of_ble_eq_true rfl⟩ (by omega) (by omega) (fun v9 X' hP => ?_) (fun _ _ h => absurd h.1 (by simp))
    obtain ⟨e2, hS2⟩ := hP
    cases e2
    replace hS2 := xRs.then hf1 hn1 hS2
    clear hS0 hR1 hb1 hI1 hf1 hn1 hr1 k1 k2 k3 k4 k5 k6
    have hS := hS2
    clear hS2
    have hS0 := hS
    obtain ⟨br1, hR1, hb1, hI1, hf1, hn1⟩ := hS
    have hr1 := hR1.at
    obtain ⟨p, q, k1, k2, k3, k4, k5⟩ := (hE.2 _ i1).use hI1
    obtain ⟨fp, k6⟩ := k2.ar
    refine xr_aload_n C d_KM_next_63 64 rfl rfl ?_
    refine xr_aload C d_KM_next_64 66 rfl rfl ?_
    refine xr_get C K_En 1 d_KM_next_66 69 rfl q_714 (Or.inl rfl) rfl (by first | assumption | exact xup_self | exact (xup_ne (by assumption)).trans (by assumption) | exact (xup_ne (Ne.symm (by assumption))).trans (by assumption) | exact (xup_ne (by assumption)).trans xup_self | exact (xup_ne (Ne.symm (by assumption))).trans xup_self) rfl ?_
    refine xr_callV C (n_addAll hI1 hR1 hb1 k5 (by simp only [List.length_append, num_len, List.length_nil]; have := hv.2.1; have := hv.2.2; omega)) k_Ro_addAll d_KM_next_69 72 rfl hr1 rfl (Or.inl q_755) v_Ro_addAll e_Ro_addAll h_Ro_addAll rfl ⟨Nat.le_of_ble_eq_true rfl, Nat.le_of_ble_eq_true rfl, Nat.le_of_ble_eq_true rfl⟩ (by omega) (by omega) (fun v9 X' hP => ?_) (fun _ _ h => absurd h.1 (by simp))
    obtain ⟨e2, hS2⟩ := hP
    cases e2
    replace hS2 := xRs.then hf1 hn1 hS2
    clear hS0 hR1 hb1 hI1 hf1 hn1 hr1 k1 k2 k3 k4 k5 k6
    have hS := hS2
    clear hS2
    rw [← e1] at hS
    exact xr_vret C d_KM_next_72 (by omega) (by omega) ⟨rfl, hS.q hM0 hR⟩
  · have i2 : ¬ fnb es key < es.length := fun h => h14 (nI_lt (by omega) (by omega))
    have e1 : nxK es key = [] ++ num 0 1 := by unfold nxK; rw [if_neg i2]; rfl
    refine xr_aload_n C d_KM_next_17 18 rfl rfl ?_
    refine xr_iconst (v := 0) C d_KM_next_18 19 rfl (by decide) ?_
    refine xr_iconst (v := 1) C d_KM_next_19 20 rfl (by decide) ?_
    have hr0 := hR.at
    refine xr_callV C (n_addNumber (v := 0) (n := 1) hI hR hb (by omega) (by rw [List.length_nil]; omega)) k_Ro_addNumber d_KM_next_20 23 rfl hr0 rfl (Or.inl q_751) v_Ro_addNumber e_Ro_addNumber h_Ro_addNumber rfl ⟨Nat.le_of_ble_eq_true rfl, Nat.le_of_ble_eq_true rfl, Nat.le_of_ble_eq_true rfl⟩ (by omega) (by omega) (fun v9 X' hP => ?_) (fun _ _ h => absurd h.1 (by simp))
    obtain ⟨e1, hS⟩ := hP
    cases e1
    rw [← e1] at hS
    exact xr_vret C d_KM_next_23 (by omega) (by omega) ⟨rfl, hS.q hM0 hR⟩
