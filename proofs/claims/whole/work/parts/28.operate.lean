/-! Doing an operation, a reading. -/
def xTape (D : va_G) (X : xH) (tp : Nat) (ts : List Int32) : Prop := ∃ f : Nat → Int32, X tp = some (.inl (D.1 100, 300, .inl f)) ∧ xby 300 f ∧ ts.length ≤ 300 ∧ ∀ i, i < ts.length → f i = ts.getD i 0
def sl (ts : List Int32) (i j : Nat) : List Int32 := (ts.drop i).take (j - i)
theorem sl_len {ts : List Int32} {i j : Nat} (hj : j ≤ ts.length) : (sl ts i j).length = j - i := by
  unfold sl
  rw [List.length_take, List.length_drop]
  omega
theorem sl_at {ts : List Int32} {i j k : Nat} (hk : k < j - i) : (sl ts i j).getD k 0 = ts.getD (i + k) 0 := by
  unfold sl
  rw [List.getD_eq_getElem?_getD, List.getElem?_take_of_lt hk, List.getElem?_drop, List.getD_eq_getElem?_getD]
theorem xTape.keep {D : va_G} {X X' : xH} {S : List Nat} {tp : Nat} {ts : List Int32} (h : xTape D X tp ts) (hf : xFr S X X') (hn : tp ∉ S) : xTape D X' tp ts := by
  obtain ⟨f, h1, h2⟩ := h
  exact ⟨f, hf.use h1 hn, h2⟩
theorem xTape.len {D : va_G} {X : xH} {tp : Nat} {ts : List Int32} (h : xTape D X tp ts) : ts.length ≤ 300 := by
  obtain ⟨f, -, -, h1, -⟩ := h
  exact h1
theorem xQ.pre {D : va_G} {X X1 X' : xH} {I I1 : Nat → Option Imm} {r br rc mp la b cap : Nat} {es' : List Es} {ans : List Int32} (h : xQ D X1 X' I1 r br rc mp la b cap es' ans) (hf : xFr [] X X1) (hi : imX X I I1) : xQ D X X' I r br rc mp la b cap es' ans := by
  obtain ⟨I', b', cap', as', br', h1, h2, h3, h4, h5, h6, h7, h8, h9⟩ := h
  exact ⟨I', b', cap', as', br', imX.trans (S := []) hi hf.dom h1, h2, h3, h4, h5, (hf.mono (fun q hq => absurd hq List.not_mem_nil)).trans h6, h7.imp id (fun e => hf.2 _ e), h8.imp id (fun e => hf.2 _ e), h9⟩
theorem xRow.keep0 {D : va_G} {X X' : xH} {r b cap : Nat} {bs : List Int32} (h : xRow D X r b cap bs) (hf : xFr [] X X') : xRow D X' r b cap bs := h.keep hf List.not_mem_nil List.not_mem_nil
def opF (s : Nat) (es : List Es) (ts : List Int32) : List Es × List Int32 :=
  if s % 8 = 0 then putK es (sl ts 0 (s / 8 % 64)) (sl ts (s / 8 % 64 + s / 512) ts.length)
  else if s % 8 = 1 then swapK es (sl ts 0 (s / 8 % 64)) (sl ts (s / 8 % 64) (s / 8 % 64 + s / 512)) (sl ts (s / 8 % 64 + s / 512) ts.length)
  else remK es (sl ts 0 (s / 8 % 64))
def lookF (s : Nat) (es : List Es) (ts : List Int32) : List Int32 :=
  if s % 8 = 3 then tvK es (sl ts 0 (s / 8))
  else if s % 8 = 4 then num (nI (fnb es (sl ts (s / 8) ts.length) - fnb es (sl ts 0 (s / 8)))) 2
  else nxK es (sl ts 0 (s / 8))
set_option maxRecDepth 100000 in
set_option maxHeartbeats 4000000 in
theorem n_slice {l : Launch} {D : va_G} {H0 : Heap} {X : xH} {tp i j : Nat} {ts : List Int32} {I : Nat → Option Imm} (hI : xIm D X I) (hT : xTape D X tp ts) (hij : i ≤ j) (hj : j ≤ ts.length) (hne : i = 0 → j < 300) : xMet l D H0 y_AR_copyOfRange b_AR_copyOfRange 3 (some (.array .byte)) [] 2 1 (j - i) [.ref tp, .int (nI i), .int (nI j)] X (fun o X' => ∃ q : Nat, o = .inl (some (.ref q)) ∧ X q = none ∧ xFr [] X X' ∧ xIm D X' (imUp I q (.inl (sl ts i j)))) := by
  obtain ⟨f, h1, h2, h3, h4⟩ := hT
  have hm := c_AR_copyOfRange (l := l) (H0 := H0) h1 (by omega) hij (show j ≤ 300 by omega) (fun e => by have := hne e; omega) h2
  refine hm.mono (fun r X' hP => ?_)
  obtain ⟨q, g, e1, e2, rfl, e4⟩ := hP
  refine ⟨q, e1, e2, xFr_new e2, hI.new e2 ⟨by rw [sl_len hj]; omega, g, ?_, fun k hk => ?_⟩⟩
  · rw [sl_len hj]
    exact xup_self
  · rw [sl_len hj] at hk
    rw [sl_at hk]
    have e5 : f (i + k) = ts.getD (i + k) 0 := h4 (i + k) (by omega)
    exact ⟨(e4 k hk).trans e5, by rw [← e5]; exact h2 (i + k) (by omega)⟩
set_option maxRecDepth 100000 in
set_option maxHeartbeats 4000000 in
theorem c_TK_operate {l : Launch} {D : va_G} {H0 : Heap} {X : xH} {mp la b cap : Nat} {as : List Nat} {es : List Es} {I : Nat → Option Imm} (hI : xIm D X I) (hM : xMap D X I mp la b cap as es) {tk tp r br rc s : Nat} {v0 v1 v5 : Value} {n0 : Int32} {ts : List Int32} (hs : s < 2 ^ 31) (htk : X tk = some (.inr (0, [v0, v1, .ref tp, .ref r, .int n0, v5]))) (hT : xTape D X tp ts) (hR : xRow D X r br rc []) (hb : I br = none) (hEm : I (D.2 200 0) = some (.inl [])) (hop : okOp s ts.length) : xMet l D H0 y_TK_operate b_TK_operate 8 none [] 7 5 1200 [.ref tk, .ref mp, .int (nI s), .int (nI ts.length)] X (fun o X' => o = .inl none ∧ xQ D X X' I r br rc mp la b cap (opF s es ts).1 (opF s es ts).2) := by
  obtain ⟨k, hk⟩ : ∃ k, k = s / 8 % 64 := ⟨_, rfl⟩
  obtain ⟨x, hx⟩ : ∃ x, x = s / 512 := ⟨_, rfl⟩
  obtain ⟨p, hp⟩ : ∃ p, p = s % 8 := ⟨_, rfl⟩
  obtain ⟨n, hn⟩ : ∃ n, n = ts.length := ⟨_, rfl⟩
  rw [← hn] at hop
  have hko : p ≤ 2 ∧ (1 ≤ k ∧ k ≤ 32) ∧ (if p = 1 then x ≤ 100 else x = 0) ∧ (if p = 2 then n = k + x else k + x ≤ n ∧ n ≤ k + x + 100) := by rw [hk, hx, hp]; exact hop
  obtain ⟨g1, ⟨g2, g3⟩, g4, g5⟩ := hko
  have hx100 : x ≤ 100 := by
    split at g4 <;> omega
  have hn1 : k + x ≤ n ∧ n ≤ k + x + 100 := by
    split at g5 <;> omega
  have hn3 := hT.len
  rw [← hn] at hn3
  have p8 : p < 8 := by omega
  obtain ⟨frb, hbr0⟩ := hR.arr
  refine ⟨[some (.ref tk), some (.ref mp), some (.int (nI s)), some (.int (nI ts.length)), none, none, none, none], rfl, Nat.le_of_ble_eq_true rfl, fun E hD hH hl _ C => ?_⟩
  subst hD
  subst hH
  subst hl
  refine xr_iload_n C d_TK_operate_0 1 rfl rfl ?_
  refine xr_callS C (c_TK_operationKeySize hs) k_TK_operationKeySize d_TK_operate_1 4 rfl (Or.inl q_413) s_TK_operationKeySize in_TK_operationKeySize h_TK_operationKeySize rfl ⟨Nat.le_of_ble_eq_true rfl, Nat.le_of_ble_eq_true rfl, Nat.le_of_ble_eq_true rfl⟩ (by omega) (by omega) (fun v9 X hP => ?_) (fun _ _ h => absurd h.1 (by simp))
  obtain ⟨h1, rfl⟩ := hP
  cases h1
  refine xr_toi (show _ = nI k by rw [hk]) ?_
  refine xr_istore C d_TK_operate_4 6 rfl rfl rfl ?_
  refine xr_iload C d_TK_operate_6 8 rfl rfl ?_
  refine xr_iload_n C d_TK_operate_8 9 rfl rfl ?_
  refine xr_callS C (c_TK_expectedSize hs) k_TK_expectedSize d_TK_operate_9 12 rfl (Or.inl q_410) s_TK_expectedSize in_TK_expectedSize h_TK_expectedSize rfl ⟨Nat.le_of_ble_eq_true rfl, Nat.le_of_ble_eq_true rfl, Nat.le_of_ble_eq_true rfl⟩ (by omega) (by omega) (fun v9 X hP => ?_) (fun _ _ h => absurd h.1 (by simp))
  obtain ⟨h1, rfl⟩ := hP
  cases h1
  refine xr_toi (show _ = nI x by rw [hx]) ?_
  refine xr_iadd C d_TK_operate_12 13 rfl ?_
  refine xr_toi (show _ = nI (k + x) from nI_add _ _) ?_
  refine xr_istore C d_TK_operate_13 15 rfl rfl rfl ?_
  refine xr_aload_n C d_TK_operate_15 16 rfl rfl ?_
  refine xr_get C K_TK 2 d_TK_operate_16 19 rfl q_119 (Or.inl rfl) rfl (by first | assumption | exact xup_self | exact (xup_ne (by assumption)).trans (by assumption) | exact (xup_ne (Ne.symm (by assumption))).trans (by assumption) | exact (xup_ne (by assumption)).trans xup_self | exact (xup_ne (Ne.symm (by assumption))).trans xup_self) rfl ?_
  refine xr_iconst (v := 0) C d_TK_operate_19 20 rfl (by decide) ?_
  refine xr_iload C d_TK_operate_20 22 rfl rfl ?_
  refine xr_callS C (n_slice (i := 0) (j := k) hI hT (by omega) (by omega) (fun _ => by omega)) k_AR_copyOfRange d_TK_operate_22 25 rfl (Or.inl q_465) s_AR_copyOfRange in_AR_copyOfRange h_AR_copyOfRange rfl ⟨Nat.le_of_ble_eq_true rfl, Nat.le_of_ble_eq_true rfl, Nat.le_of_ble_eq_true rfl⟩ (by omega) (by omega) (fun v9 X1 hP => ?_) (fun _ _ h => by obtain ⟨q, h, -⟩ := h; cases h)
  obtain ⟨q1, e1, u1, f1, i1⟩ := hP
  cases e1
  have t1 := f1.use htk List.not_mem_nil
  have T1 := hT.keep f1 List.not_mem_nil
  have x1 := imX_up (v := .inl (sl ts 0 k)) hI u1
  refine xr_astore C d_TK_operate_25 27 rfl rfl rfl ?_
  refine xr_aload_n C d_TK_operate_27 28 rfl rfl ?_
  refine xr_get C K_TK 2 d_TK_operate_28 31 rfl q_119 (Or.inl rfl) rfl (by first | assumption | exact xup_self | exact (xup_ne (by assumption)).trans (by assumption) | exact (xup_ne (Ne.symm (by assumption))).trans (by assumption) | exact (xup_ne (by assumption)).trans xup_self | exact (xup_ne (Ne.symm (by assumption))).trans xup_self) rfl ?_
  refine xr_iload C d_TK_operate_31 33 rfl rfl ?_
  refine xr_iload_n C d_TK_operate_33 34 rfl rfl ?_
  refine xr_callS C (n_slice (i := k + x) (j := ts.length) i1 T1 (by omega) (by omega) (fun h => by omega)) k_AR_copyOfRange d_TK_operate_34 37 rfl (Or.inl q_465) s_AR_copyOfRange in_AR_copyOfRange h_AR_copyOfRange rfl ⟨Nat.le_of_ble_eq_true rfl, Nat.le_of_ble_eq_true rfl, Nat.le_of_ble_eq_true rfl⟩ (by omega) (by omega) (fun v9 X2 hP => ?_) (fun _ _ h => by obtain ⟨q, h, -⟩ := h; cases h)
  obtain ⟨q2, e1, u2, f2, i2⟩ := hP
  cases e1
  have t2 := f2.use t1 List.not_mem_nil
  have T2 := T1.keep f2 List.not_mem_nil
  have x2 := imX_up (v := .inl (sl ts (k + x) ts.length)) i1 u2
  obtain ⟨I2, hI2⟩ : ∃ z, z = imUp (imUp I q1 (.inl (sl ts 0 k))) q2 (.inl (sl ts (k + x) ts.length)) := ⟨_, rfl⟩
  rw [← hI2] at i2 x2
  have f12 : xFr [] X X2 := f1.trans f2
  have x12 : imX X I I2 := imX.trans (S := []) x1 f1.dom x2
  have M2 : xMap E.D X2 I2 mp la b cap as es := (hM.keep f12 List.not_mem_nil List.not_mem_nil List.not_mem_nil).le x12.1
  have R2 := hR.keep0 f12
  have hb2 : I2 br = none := x12.2 _ _ hbr0 hb
  have hk2 : I2 q1 = some (.inl (sl ts 0 k)) := x2.1 _ _ imUp_self
  have hv2 : I2 q2 = some (.inl (sl ts (k + x) ts.length)) := by rw [hI2]; exact imUp_self
  have hl1 : (sl ts 0 k).length = k := by rw [sl_len (by omega)]; omega
  have hl2 : (sl ts (k + x) ts.length).length ≤ 100 := by rw [sl_len (by omega)]; omega
  have m2 := M2.1
  refine xr_astore C d_TK_operate_37 39 rfl rfl rfl ?_
  refine xr_iload_n C d_TK_operate_39 40 rfl rfl ?_
  refine xr_callS C (c_TK_kindOf hs) k_TK_kindOf d_TK_operate_40 43 rfl (Or.inl q_407) s_TK_kindOf in_TK_kindOf h_TK_kindOf rfl ⟨Nat.le_of_ble_eq_true rfl, Nat.le_of_ble_eq_true rfl, Nat.le_of_ble_eq_true rfl⟩ (by omega) (by omega) (fun v9 X2 hP => ?_) (fun _ _ h => absurd h.1 (by simp))
  obtain ⟨h1, rfl⟩ := hP
  cases h1
  refine xr_toi (show _ = nI p by rw [hp]) ?_
  have hp012 : p = 0 ∨ p = 1 ∨ p = 2 := by omega
  rcases hp012 with e | e | e
  · have hof : opF s es ts = putK es (sl ts 0 k) (sl ts (k + x) ts.length) := by unfold opF; rw [if_pos (by omega), hk, hx]
    rw [hof] at C
    rw [e]
    refine xr_lookup C d_TK_operate_43 68 (by decide) (show _ = (25 : Int) from rfl) (by decide) ?_
    refine xr_aload_n C d_TK_operate_68 69 rfl rfl ?_
    refine xr_aload C d_TK_operate_69 71 rfl rfl ?_
    refine xr_aload C d_TK_operate_71 73 rfl rfl ?_
    refine xr_aload_n C d_TK_operate_73 74 rfl rfl ?_
    refine xr_get C K_TK 3 d_TK_operate_74 77 rfl q_120 (Or.inl rfl) rfl (by first | assumption | exact xup_self | exact (xup_ne (by assumption)).trans (by assumption) | exact (xup_ne (Ne.symm (by assumption))).trans (by assumption) | exact (xup_ne (by assumption)).trans xup_self | exact (xup_ne (Ne.symm (by assumption))).trans xup_self) rfl ?_
    refine xr_callV C (c_KM_put i2 M2 R2 hb2 hk2 hv2 ⟨by rw [hl1]; exact g2, by rw [hl1]; exact g3, hl2⟩ (x12.1 _ _ hEm)) k_KM_put d_TK_operate_77 80 rfl (by first | assumption | exact xup_self | exact (xup_ne (by assumption)).trans (by assumption) | exact (xup_ne (Ne.symm (by assumption))).trans (by assumption) | exact (xup_ne (by assumption)).trans xup_self | exact (xup_ne (Ne.symm (by assumption))).trans xup_self) rfl (Or.inl q_681) v_KM_put e_KM_put h_KM_put rfl ⟨Nat.le_of_ble_eq_true rfl, Nat.le_of_ble_eq_true rfl, Nat.le_of_ble_eq_true rfl⟩ (by omega) (by omega) (fun v9 X' hP => ?_) (fun _ _ h => absurd h.1 (by simp))
    obtain ⟨e1, hQ⟩ := hP
    cases e1
    refine xr_goto C d_TK_operate_80 119 (by decide) ?_
    exact xr_vret C d_TK_operate_119 (by omega) (by omega) ⟨rfl, hQ.pre f12 x12⟩
  · have hof : opF s es ts = swapK es (sl ts 0 k) (sl ts k (k + x)) (sl ts (k + x) ts.length) := by unfold opF; rw [if_neg (by omega), if_pos (by omega), hk, hx]
    rw [hof] at C
    rw [e]
    refine xr_lookup C d_TK_operate_43 83 (by decide) (show _ = (40 : Int) from rfl) (by decide) ?_
    refine xr_aload_n C d_TK_operate_83 84 rfl rfl ?_
    refine xr_aload C d_TK_operate_84 86 rfl rfl ?_
    refine xr_aload_n C d_TK_operate_86 87 rfl rfl ?_
    refine xr_get C K_TK 2 d_TK_operate_87 90 rfl q_119 (Or.inl rfl) rfl (by first | assumption | exact xup_self | exact (xup_ne (by assumption)).trans (by assumption) | exact (xup_ne (Ne.symm (by assumption))).trans (by assumption) | exact (xup_ne (by assumption)).trans xup_self | exact (xup_ne (Ne.symm (by assumption))).trans xup_self) rfl ?_
    refine xr_iload C d_TK_operate_90 92 rfl rfl ?_
    refine xr_iload C d_TK_operate_92 94 rfl rfl ?_
    refine xr_callS C (n_slice (i := k) (j := k + x) i2 T2 (by omega) (by omega) (fun h => by omega)) k_AR_copyOfRange d_TK_operate_94 97 rfl (Or.inl q_465) s_AR_copyOfRange in_AR_copyOfRange h_AR_copyOfRange rfl ⟨Nat.le_of_ble_eq_true rfl, Nat.le_of_ble_eq_true rfl, Nat.le_of_ble_eq_true rfl⟩ (by omega) (by omega) (fun v9 X3 hP => ?_) (fun _ _ h => by obtain ⟨q, h, -⟩ := h; cases h)
    obtain ⟨q3, e1, u3, f3, i3⟩ := hP
    cases e1
    have t3 := f3.use t2 List.not_mem_nil
    have x3 := imX_up (v := .inl (sl ts k (k + x))) i2 u3
    have f13 : xFr [] X X3 := f12.trans f3
    have x13 : imX X I _ := imX.trans (S := []) x12 f12.dom x3
    have M3 := (M2.keep f3 List.not_mem_nil List.not_mem_nil List.not_mem_nil).le x3.1
    have R3 := R2.keep0 f3
    obtain ⟨frb2, hbr2⟩ := R2.arr
    have hb3 := x3.2 _ _ hbr2 hb2
    have m3 := M3.1
    refine xr_aload C d_TK_operate_97 99 rfl rfl ?_
    refine xr_aload_n C d_TK_operate_99 100 rfl rfl ?_
    refine xr_get C K_TK 3 d_TK_operate_100 103 rfl q_120 (Or.inl rfl) rfl (by first | assumption | exact xup_self | exact (xup_ne (by assumption)).trans (by assumption) | exact (xup_ne (Ne.symm (by assumption))).trans (by assumption) | exact (xup_ne (by assumption)).trans xup_self | exact (xup_ne (Ne.symm (by assumption))).trans xup_self) rfl ?_
    refine xr_callV C (c_KM_swap i3 M3 R3 hb3 (x3.1 _ _ hk2) imUp_self (x3.1 _ _ hv2) hl2) k_KM_swap d_TK_operate_103 106 rfl (by first | assumption | exact xup_self | exact (xup_ne (by assumption)).trans (by assumption) | exact (xup_ne (Ne.symm (by assumption))).trans (by assumption) | exact (xup_ne (by assumption)).trans xup_self | exact (xup_ne (Ne.symm (by assumption))).trans xup_self) rfl (Or.inl q_756) v_KM_swap e_KM_swap h_KM_swap rfl ⟨Nat.le_of_ble_eq_true rfl, Nat.le_of_ble_eq_true rfl, Nat.le_of_ble_eq_true rfl⟩ (by omega) (by omega) (fun v9 X' hP => ?_) (fun _ _ h => absurd h.1 (by simp))
    obtain ⟨e1, hQ⟩ := hP
    cases e1
    refine xr_goto C d_TK_operate_106 119 (by decide) ?_
    exact xr_vret C d_TK_operate_119 (by omega) (by omega) ⟨rfl, hQ.pre f13 x13⟩
  · have hof : opF s es ts = remK es (sl ts 0 k) := by unfold opF; rw [if_neg (by omega), if_neg (by omega), hk]
    rw [hof] at C
    rw [e]
    refine xr_lookup C d_TK_operate_43 109 (by decide) (show _ = (66 : Int) from rfl) (by decide) ?_
    refine xr_aload_n C d_TK_operate_109 110 rfl rfl ?_
    refine xr_aload C d_TK_operate_110 112 rfl rfl ?_
    refine xr_aload_n C d_TK_operate_112 113 rfl rfl ?_
    refine xr_get C K_TK 3 d_TK_operate_113 116 rfl q_120 (Or.inl rfl) rfl (by first | assumption | exact xup_self | exact (xup_ne (by assumption)).trans (by assumption) | exact (xup_ne (Ne.symm (by assumption))).trans (by assumption) | exact (xup_ne (by assumption)).trans xup_self | exact (xup_ne (Ne.symm (by assumption))).trans xup_self) rfl ?_
    refine xr_callV C (c_KM_remove i2 M2 R2 hb2 hk2) k_KM_remove d_TK_operate_116 119 rfl (by first | assumption | exact xup_self | exact (xup_ne (by assumption)).trans (by assumption) | exact (xup_ne (Ne.symm (by assumption))).trans (by assumption) | exact (xup_ne (by assumption)).trans xup_self | exact (xup_ne (Ne.symm (by assumption))).trans xup_self) rfl (Or.inl q_764) v_KM_remove e_KM_remove h_KM_remove rfl ⟨Nat.le_of_ble_eq_true rfl, Nat.le_of_ble_eq_true rfl, Nat.le_of_ble_eq_true rfl⟩ (by omega) (by omega) (fun v9 X' hP => ?_) (fun _ _ h => absurd h.1 (by simp))
    obtain ⟨e1, hQ⟩ := hP
    cases e1
    exact xr_vret C d_TK_operate_119 (by omega) (by omega) ⟨rfl, hQ.pre f12 x12⟩
set_option maxRecDepth 100000 in
set_option maxHeartbeats 4000000 in
theorem c_TK_look {l : Launch} {D : va_G} {H0 : Heap} {X : xH} {mp la b cap : Nat} {as : List Nat} {es : List Es} {I : Nat → Option Imm} (hI : xIm D X I) (hM : xMap D X I mp la b cap as es) {tk tp r br rc s : Nat} {v0 v1 v5 : Value} {n0 : Int32} {ts : List Int32} (hs : s < 2 ^ 31) (htk : X tk = some (.inr (0, [v0, v1, .ref tp, .ref r, .int n0, v5]))) (hT : xTape D X tp ts) (hR : xRow D X r br rc []) (hb : I br = none) (hop : okRd s ts.length) : xMet l D H0 y_TK_look b_TK_look 6 none [] 6 2 600 [.ref tk, .ref mp, .int (nI s), .int (nI ts.length)] X (fun o X' => o = .inl none ∧ xQ D X X' I r br rc mp la b cap es (lookF s es ts)) := by
  obtain ⟨k, hk⟩ : ∃ k, k = s / 8 := ⟨_, rfl⟩
  obtain ⟨p, hp⟩ : ∃ p, p = s % 8 := ⟨_, rfl⟩
  obtain ⟨n, hn⟩ : ∃ n, n = ts.length := ⟨_, rfl⟩
  rw [← hn] at hop
  have hko : (3 ≤ p ∧ p ≤ 5) ∧ (1 ≤ k ∧ k ≤ 32) ∧ (if p = 4 then k + 1 ≤ n ∧ n ≤ k + 32 else n = k) := by rw [hk, hp]; exact hop
  obtain ⟨g1, ⟨g2, g3⟩, g5⟩ := hko
  have hn1 : k ≤ n ∧ n ≤ k + 32 := by
    split at g5 <;> omega
  have hn3 := hT.len
  rw [← hn] at hn3
  obtain ⟨frb, hbr0⟩ := hR.arr
  refine ⟨[some (.ref tk), some (.ref mp), some (.int (nI s)), some (.int (nI ts.length)), none, none], rfl, Nat.le_of_ble_eq_true rfl, fun E hD hH hl _ C => ?_⟩
  subst hD
  subst hH
  subst hl
  refine xr_iload_n C d_TK_look_0 1 rfl rfl ?_
  refine xr_callS C (c_TK_readingKeySize hs) k_TK_readingKeySize d_TK_look_1 4 rfl (Or.inl q_791) s_TK_readingKeySize in_TK_readingKeySize h_TK_readingKeySize rfl ⟨Nat.le_of_ble_eq_true rfl, Nat.le_of_ble_eq_true rfl, Nat.le_of_ble_eq_true rfl⟩ (by omega) (by omega) (fun v9 X hP => ?_) (fun _ _ h => absurd h.1 (by simp))
  obtain ⟨h1, rfl⟩ := hP
  cases h1
  refine xr_toi (show _ = nI k by rw [hk]) ?_
  refine xr_istore C d_TK_look_4 6 rfl rfl rfl ?_
  refine xr_aload_n C d_TK_look_6 7 rfl rfl ?_
  refine xr_get C K_TK 2 d_TK_look_7 10 rfl q_119 (Or.inl rfl) rfl (by first | assumption | exact xup_self | exact (xup_ne (by assumption)).trans (by assumption) | exact (xup_ne (Ne.symm (by assumption))).trans (by assumption) | exact (xup_ne (by assumption)).trans xup_self | exact (xup_ne (Ne.symm (by assumption))).trans xup_self) rfl ?_
  refine xr_iconst (v := 0) C d_TK_look_10 11 rfl (by decide) ?_
  refine xr_iload C d_TK_look_11 13 rfl rfl ?_
  refine xr_callS C (n_slice (i := 0) (j := k) hI hT (by omega) (by omega) (fun _ => by omega)) k_AR_copyOfRange d_TK_look_13 16 rfl (Or.inl q_465) s_AR_copyOfRange in_AR_copyOfRange h_AR_copyOfRange rfl ⟨Nat.le_of_ble_eq_true rfl, Nat.le_of_ble_eq_true rfl, Nat.le_of_ble_eq_true rfl⟩ (by omega) (by omega) (fun v9 X1 hP => ?_) (fun _ _ h => by obtain ⟨q, h, -⟩ := h; cases h)
  obtain ⟨q1, e1, u1, f1, i1⟩ := hP
  cases e1
  have t1 := f1.use htk List.not_mem_nil
  have T1 := hT.keep f1 List.not_mem_nil
  have x1 := imX_up (v := .inl (sl ts 0 k)) hI u1
  have M1 := (hM.keep f1 List.not_mem_nil List.not_mem_nil List.not_mem_nil).le x1.1
  have R1 := hR.keep0 f1
  have hb1 := x1.2 _ _ hbr0 hb
  have m1 := M1.1
  refine xr_astore C d_TK_look_16 18 rfl rfl rfl ?_
  refine xr_iload_n C d_TK_look_18 19 rfl rfl ?_
  refine xr_callS C (c_TK_kindOf hs) k_TK_kindOf d_TK_look_19 22 rfl (Or.inl q_407) s_TK_kindOf in_TK_kindOf h_TK_kindOf rfl ⟨Nat.le_of_ble_eq_true rfl, Nat.le_of_ble_eq_true rfl, Nat.le_of_ble_eq_true rfl⟩ (by omega) (by omega) (fun v9 X1 hP => ?_) (fun _ _ h => absurd h.1 (by simp))
  obtain ⟨h1, rfl⟩ := hP
  cases h1
  refine xr_toi (show _ = nI p by rw [hp]) ?_
  have hp012 : p = 3 ∨ p = 4 ∨ p = 5 := by omega
  rcases hp012 with e | e | e
  · have hof : lookF s es ts = tvK es (sl ts 0 k) := by unfold lookF; rw [if_pos (by omega), hk]
    rw [hof] at C
    rw [e]
    refine xr_lookup C d_TK_look_22 48 (by decide) (show _ = (26 : Int) from rfl) (by decide) ?_
    refine xr_aload_n C d_TK_look_48 49 rfl rfl ?_
    refine xr_aload C d_TK_look_49 51 rfl rfl ?_
    refine xr_aload_n C d_TK_look_51 52 rfl rfl ?_
    refine xr_get C K_TK 3 d_TK_look_52 55 rfl q_120 (Or.inl rfl) rfl (by first | assumption | exact xup_self | exact (xup_ne (by assumption)).trans (by assumption) | exact (xup_ne (Ne.symm (by assumption))).trans (by assumption) | exact (xup_ne (by assumption)).trans xup_self | exact (xup_ne (Ne.symm (by assumption))).trans xup_self) rfl ?_
    refine xr_callV C (c_KM_get i1 M1 R1 hb1 imUp_self) k_KM_get d_TK_look_55 58 rfl (by first | assumption | exact xup_self | exact (xup_ne (by assumption)).trans (by assumption) | exact (xup_ne (Ne.symm (by assumption))).trans (by assumption) | exact (xup_ne (by assumption)).trans xup_self | exact (xup_ne (Ne.symm (by assumption))).trans xup_self) rfl (Or.inl q_799) v_KM_get e_KM_get h_KM_get rfl ⟨Nat.le_of_ble_eq_true rfl, Nat.le_of_ble_eq_true rfl, Nat.le_of_ble_eq_true rfl⟩ (by omega) (by omega) (fun v9 X' hP => ?_) (fun _ _ h => absurd h.1 (by simp))
    obtain ⟨e1, hQ⟩ := hP
    cases e1
    refine xr_goto C d_TK_look_58 94 (by decide) ?_
    exact xr_vret C d_TK_look_94 (by omega) (by omega) ⟨rfl, hQ.pre f1 x1⟩
  · have hof : lookF s es ts = num (nI (fnb es (sl ts k ts.length) - fnb es (sl ts 0 k))) 2 := by unfold lookF; rw [if_neg (by omega), if_pos (by omega), hk]
    rw [hof] at C
    rw [e]
    refine xr_lookup C d_TK_look_22 61 (by decide) (show _ = (39 : Int) from rfl) (by decide) ?_
    refine xr_aload_n C d_TK_look_61 62 rfl rfl ?_
    refine xr_aload C d_TK_look_62 64 rfl rfl ?_
    refine xr_aload_n C d_TK_look_64 65 rfl rfl ?_
    refine xr_get C K_TK 2 d_TK_look_65 68 rfl q_119 (Or.inl rfl) rfl (by first | assumption | exact xup_self | exact (xup_ne (by assumption)).trans (by assumption) | exact (xup_ne (Ne.symm (by assumption))).trans (by assumption) | exact (xup_ne (by assumption)).trans xup_self | exact (xup_ne (Ne.symm (by assumption))).trans xup_self) rfl ?_
    refine xr_iload C d_TK_look_68 70 rfl rfl ?_
    refine xr_iload_n C d_TK_look_70 71 rfl rfl ?_
    refine xr_callS C (n_slice (i := k) (j := ts.length) i1 T1 (by omega) (by omega) (fun h => by omega)) k_AR_copyOfRange d_TK_look_71 74 rfl (Or.inl q_465) s_AR_copyOfRange in_AR_copyOfRange h_AR_copyOfRange rfl ⟨Nat.le_of_ble_eq_true rfl, Nat.le_of_ble_eq_true rfl, Nat.le_of_ble_eq_true rfl⟩ (by omega) (by omega) (fun v9 X3 hP => ?_) (fun _ _ h => by obtain ⟨q, h, -⟩ := h; cases h)
    obtain ⟨q3, e1, u3, f3, i3⟩ := hP
    cases e1
    have t3 := f3.use t1 List.not_mem_nil
    have x3 := imX_up (v := .inl (sl ts k ts.length)) i1 u3
    have f13 : xFr [] X X3 := f1.trans f3
    have x13 : imX X I _ := imX.trans (S := []) x1 f1.dom x3
    have M3 := (M1.keep f3 List.not_mem_nil List.not_mem_nil List.not_mem_nil).le x3.1
    have R3 := R1.keep0 f3
    obtain ⟨frb2, hbr2⟩ := R1.arr
    have hb3 := x3.2 _ _ hbr2 hb1
    have m3 := M3.1
    refine xr_aload_n C d_TK_look_74 75 rfl rfl ?_
    refine xr_get C K_TK 3 d_TK_look_75 78 rfl q_120 (Or.inl rfl) rfl (by first | assumption | exact xup_self | exact (xup_ne (by assumption)).trans (by assumption) | exact (xup_ne (Ne.symm (by assumption))).trans (by assumption) | exact (xup_ne (by assumption)).trans xup_self | exact (xup_ne (Ne.symm (by assumption))).trans xup_self) rfl ?_
    refine xr_callV C (c_KM_count i3 M3 R3 hb3 (x3.1 _ _ imUp_self) imUp_self) k_KM_count d_TK_look_78 81 rfl (by first | assumption | exact xup_self | exact (xup_ne (by assumption)).trans (by assumption) | exact (xup_ne (Ne.symm (by assumption))).trans (by assumption) | exact (xup_ne (by assumption)).trans xup_self | exact (xup_ne (Ne.symm (by assumption))).trans xup_self) rfl (Or.inl q_803) v_KM_count e_KM_count h_KM_count rfl ⟨Nat.le_of_ble_eq_true rfl, Nat.le_of_ble_eq_true rfl, Nat.le_of_ble_eq_true rfl⟩ (by omega) (by omega) (fun v9 X' hP => ?_) (fun _ _ h => absurd h.1 (by simp))
    obtain ⟨e1, hQ⟩ := hP
    cases e1
    refine xr_goto C d_TK_look_81 94 (by decide) ?_
    exact xr_vret C d_TK_look_94 (by omega) (by omega) ⟨rfl, hQ.pre f13 x13⟩
  · have hof : lookF s es ts = nxK es (sl ts 0 k) := by unfold lookF; rw [if_neg (by omega), if_neg (by omega), hk]
    rw [hof] at C
    rw [e]
    refine xr_lookup C d_TK_look_22 84 (by decide) (show _ = (62 : Int) from rfl) (by decide) ?_
    refine xr_aload_n C d_TK_look_84 85 rfl rfl ?_
    refine xr_aload C d_TK_look_85 87 rfl rfl ?_
    refine xr_aload_n C d_TK_look_87 88 rfl rfl ?_
    refine xr_get C K_TK 3 d_TK_look_88 91 rfl q_120 (Or.inl rfl) rfl (by first | assumption | exact xup_self | exact (xup_ne (by assumption)).trans (by assumption) | exact (xup_ne (Ne.symm (by assumption))).trans (by assumption) | exact (xup_ne (by assumption)).trans xup_self | exact (xup_ne (Ne.symm (by assumption))).trans xup_self) rfl ?_
    refine xr_callV C (c_KM_next i1 M1 R1 hb1 imUp_self) k_KM_next d_TK_look_91 94 rfl (by first | assumption | exact xup_self | exact (xup_ne (by assumption)).trans (by assumption) | exact (xup_ne (Ne.symm (by assumption))).trans (by assumption) | exact (xup_ne (by assumption)).trans xup_self | exact (xup_ne (Ne.symm (by assumption))).trans xup_self) rfl (Or.inl q_808) v_KM_next e_KM_next h_KM_next rfl ⟨Nat.le_of_ble_eq_true rfl, Nat.le_of_ble_eq_true rfl, Nat.le_of_ble_eq_true rfl⟩ (by omega) (by omega) (fun v9 X' hP => ?_) (fun _ _ h => absurd h.1 (by simp))
    obtain ⟨e1, hQ⟩ := hP
    cases e1
    exact xr_vret C d_TK_look_94 (by omega) (by omega) ⟨rfl, hQ.pre f1 x1⟩
