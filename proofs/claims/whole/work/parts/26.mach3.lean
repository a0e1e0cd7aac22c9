/-! Machines: copied. -/
def nxs : Nat → Nat → Nat
  | 0, c => c
  | j + 1, c => nxs j (nx c)
/-- a list of room c that has grown for n is of room d -/
def isL (c n d : Nat) : Prop := ∃ j : Nat, d = nxs j c ∧ n ≤ d ∧ ∀ i, i < j → nxs i c < n
theorem nx_gt {c : Nat} : c < nx c := by
  unfold nx
  split
  · omega
  · split <;> omega
theorem nxs_ge : ∀ (j c : Nat), c + j ≤ nxs j c
  | 0, c => Nat.le_refl _
  | j + 1, c => by
    have h1 := nxs_ge j (nx c)
    have h2 := nx_gt (c := c)
    show c + (j + 1) ≤ nxs j (nx c)
    omega
theorem isL.le {c n d : Nat} (h : isL c n d) : c ≤ d := by
  obtain ⟨j, rfl, -⟩ := h
  have := nxs_ge j c
  omega
theorem isL.fit {c n d : Nat} (h : isL c n d) (hn : n ≤ c) : d = c := by
  obtain ⟨j, rfl, h1, h2⟩ := h
  match j with
  | 0 => rfl
  | j + 1 =>
    have h3 : c < n := h2 0 (by omega)
    omega
theorem isL.ex (c n : Nat) : ∃ d, isL c n d := by
  obtain ⟨k, h1, h2⟩ := pk_least (fun k => n ≤ nxs k c) ⟨n, by have := nxs_ge n c; omega⟩
  exact ⟨_, k, rfl, h1, fun i hi => Nat.not_le.mp (h2 i hi)⟩
theorem isL.step {c n d i : Nat} (h : isL c n d) (hi : i < n) (hc : i ≤ c) : isL (if i < c then c else nx c) n d := by
  by_cases h0 : i < c
  · rw [if_pos h0]
    exact h
  · rw [if_neg h0]
    obtain ⟨j, rfl, h1, h2⟩ := h
    match j with
    | 0 =>
      have h3 : n ≤ c := h1
      omega
    | j + 1 => exact ⟨j, rfl, h1, fun i hi => h2 (i + 1) (by omega)⟩
theorem nxs_top {n : Nat} (hn : n ≤ 128) : ∀ (j c : Nat), c ≤ 200 → (∀ i, i < j → nxs i c < n) → nxs j c ≤ 200
  | 0, c, hc, _ => hc
  | j + 1, c, hc, h => by
    have h0 : c < n := h 0 (by omega)
    refine nxs_top hn j (nx c) ?_ (fun i hi => h (i + 1) (by omega))
    unfold nx
    split
    · omega
    · split <;> omega
theorem isL.top {c n d : Nat} (h : isL c n d) (hc : c ≤ 200) (hn : n ≤ 128) : d ≤ 200 := by
  obtain ⟨j, rfl, h1, h2⟩ := h
  exact nxs_top hn j c hc h2
/-- two machines have nothing in common -/
def xSep (X : xH) (a ls bs mp la be a' ls' bs' mp' la' be' : Nat) : Prop := a ≠ a' ∧ mp ≠ mp' ∧ ls ≠ ls' ∧ ls ≠ la' ∧ la ≠ ls' ∧ la ≠ la' ∧ sepB X bs bs' ∧ sepB X bs be' ∧ sepB X be bs' ∧ sepB X be be'
theorem xSep.symm {X : xH} {a ls bs mp la be a' ls' bs' mp' la' be' : Nat} (h : xSep X a ls bs mp la be a' ls' bs' mp' la' be') : xSep X a' ls' bs' mp' la' be' a ls bs mp la be := by
  obtain ⟨h1, h2, h3, h4, h5, h6, h7, h8, h9, h10⟩ := h
  exact ⟨h1.symm, h2.symm, h3.symm, h5.symm, h4.symm, h6.symm, h7.symm, h9.symm, h8.symm, h10.symm⟩
theorem xMac.keepS {D : va_G} {X X' : xH} {S : List Nat} {I : Nat → Option Imm} {a ls bs cs mp la be ce : Nat} {as1 as2 : List Nat} {ss : List Ss} {es : List Es} {g : Int32} (h : xMac D X I a ls bs cs mp la be ce as1 as2 ss es g) (hf : xFr S X X') (h1 : a ∉ S) (h2 : ls ∉ S) (h3 : bs ∉ S ∨ xz0 X bs) (h4 : mp ∉ S) (h5 : la ∉ S) (h6 : be ∉ S ∨ xz0 X be) : xMac D X' I a ls bs cs mp la be ce as1 as2 ss es g := by
  obtain ⟨ha, hL, hE, hok, hM, hll, hbb⟩ := h
  exact ⟨hf.use ha h1, hL.keepz hf h2 h3, hE, hok, hM.keepz hf h4 h5 h6, hll, hbb.keep hf⟩
theorem xMac.keepO {D : va_G} {X X' : xH} {I : Nat → Option Imm} {a ls bs cs mp la be ce : Nat} {as1 as2 : List Nat} {ss : List Ss} {es : List Es} {g : Int32} {a' ls' bs' cs' mp' la' be' ce' : Nat} {as1' as2' : List Nat} {ss' : List Ss} {es' : List Es} {g' : Int32} (hA : xMac D X I a ls bs cs mp la be ce as1 as2 ss es g) (hB : xMac D X I a' ls' bs' cs' mp' la' be' ce' as1' as2' ss' es' g') (hs : xSep X a ls bs mp la be a' ls' bs' mp' la' be') (hf : xFr [a, ls, bs, mp, la, be] X X') : xMac D X' I a' ls' bs' cs' mp' la' be' ce' as1' as2' ss' es' g' := by
  obtain ⟨ha, hL, hE, hok, hM, hll, hbb⟩ := hA
  obtain ⟨vl, hl⟩ := hL.ob
  obtain ⟨fb, hb⟩ := hL.ar
  obtain ⟨vk, hk⟩ := hM.2.1.ob
  obtain ⟨fe, he⟩ := hM.2.1.ar
  have hm := hM.1
  obtain ⟨ha', hL', hE', hok', hM', hll', hbb'⟩ := id hB
  obtain ⟨vl', hl'⟩ := hL'.ob
  obtain ⟨fb', hb'⟩ := hL'.ar
  obtain ⟨vk', hk'⟩ := hM'.2.1.ob
  obtain ⟨fe', he'⟩ := hM'.2.1.ar
  have hm' := hM'.1
  obtain ⟨s1, s2, s3, s4, s5, s6, s7, s8, s9, s10⟩ := hs
  refine hB.keepS hf ?_ ?_ ?_ ?_ ?_ ?_
  · simp only [List.mem_cons, List.not_mem_nil, or_false, not_or]
    exact ⟨s1.symm, xne ha' hl (by intro h; cases h), xne ha' hb (by intro h; cases h), xne ha' hm (by intro h; cases h), xne ha' hk (by intro h; cases h), xne ha' he (by intro h; cases h)⟩
  · simp only [List.mem_cons, List.not_mem_nil, or_false, not_or]
    exact ⟨xne hl' ha (by intro h; cases h), s3.symm, xne hl' hb (by intro h; cases h), xne hl' hm (by intro h; cases h), s5.symm, xne hl' he (by intro h; cases h)⟩
  · rcases s7.symm with h1 | h1
    · rcases s9.symm with h2 | h2
      · left
        simp only [List.mem_cons, List.not_mem_nil, or_false, not_or]
        exact ⟨xne hb' ha (by intro h; cases h), xne hb' hl (by intro h; cases h), h1, xne hb' hm (by intro h; cases h), xne hb' hk (by intro h; cases h), h2⟩
      · exact Or.inr h2
    · exact Or.inr h1
  · simp only [List.mem_cons, List.not_mem_nil, or_false, not_or]
    exact ⟨xne hm' ha (by intro h; cases h), xne hm' hl (by intro h; cases h), xne hm' hb (by intro h; cases h), s2.symm, xne hm' hk (by intro h; cases h), xne hm' he (by intro h; cases h)⟩
  · simp only [List.mem_cons, List.not_mem_nil, or_false, not_or]
    exact ⟨xne hk' ha (by intro h; cases h), s4.symm, xne hk' hb (by intro h; cases h), xne hk' hm (by intro h; cases h), s6.symm, xne hk' he (by intro h; cases h)⟩
  · rcases s8.symm with h1 | h1
    · rcases s10.symm with h2 | h2
      · left
        simp only [List.mem_cons, List.not_mem_nil, or_false, not_or]
        exact ⟨xne he' ha (by intro h; cases h), xne he' hl (by intro h; cases h), h1, xne he' hm (by intro h; cases h), xne he' hk (by intro h; cases h), h2⟩
      · exact Or.inr h2
    · exact Or.inr h1
/-- a machine while it is filled -/
def xTwo (D : va_G) (X Y : xH) (I : Nat → Option Imm) (a ls bs mp la be b1 c1 b2 c2 : Nat) (l1 l2 : List Nat) (g : Int32) : Prop :=
  Y a = some (.inr (1, [.ref ls, .ref mp, .int g])) ∧ Y mp = some (.inr (2, [.ref la, .int 0])) ∧ xLi D Y ls b1 c1 l1 ∧ xLi D Y la b2 c2 l2 ∧ sepB Y b1 b2 ∧ xIm D Y I ∧ xFr [ls, bs, mp, la, be] X Y ∧ (b1 = bs ∨ X b1 = none) ∧ (b2 = be ∨ X b2 = none)
theorem xTwo.l {D : va_G} {X Y Y2 : xH} {I : Nat → Option Imm} {a ls bs mp la be b1 c1 b2 c2 b1' c1' : Nat} {l1 l2 l1' : List Nat} {g : Int32} (h : xTwo D X Y I a ls bs mp la be b1 c1 b2 c2 l1 l2 g) (hll : ls ≠ la) (hL : xLi D Y2 ls b1' c1' l1') (hf : xFr [ls, b1] Y Y2) (hn : b1' = b1 ∨ Y b1' = none) : xTwo D X Y2 I a ls bs mp la be b1' c1' b2 c2 l1' l2 g := by
  obtain ⟨h1, h2, h3, h4, h5, h6, h7, h8, h9⟩ := h
  obtain ⟨vl, k1⟩ := h3.ob
  obtain ⟨fl, k2⟩ := h3.ar
  obtain ⟨vk, k3⟩ := h4.ob
  obtain ⟨fk, k4⟩ := h4.ar
  refine ⟨hf.use h1 ?_, hf.use h2 ?_, hL, h4.keepz hf ?_ ?_, h5.new hf hn k4, h6.keepL h3 hf, h7.fr hf (fun q hq => ?_), ?_, h9⟩
  · simp only [List.mem_cons, List.not_mem_nil, or_false, not_or]
    exact ⟨xne h1 k1 (by intro h; cases h), xne h1 k2 (by intro h; cases h)⟩
  · simp only [List.mem_cons, List.not_mem_nil, or_false, not_or]
    exact ⟨xne h2 k1 (by intro h; cases h), xne h2 k2 (by intro h; cases h)⟩
  · simp only [List.mem_cons, List.not_mem_nil, or_false, not_or]
    exact ⟨hll.symm, xne k3 k2 (by intro h; cases h)⟩
  · rcases h5.symm with e | e
    · left
      simp only [List.mem_cons, List.not_mem_nil, or_false, not_or]
      exact ⟨xne k4 k1 (by intro h; cases h), e⟩
    · exact Or.inr e
  · rcases List.mem_cons.mp hq with e | e
    · exact Or.inl (by rw [e]; simp)
    · rw [show q = b1 by simpa using e]
      exact h8.imp (fun e => by rw [e]; simp) id
  · rcases hn with e | e
    · rw [e]
      exact h8
    · exact Or.inr (h7.2 _ e)
theorem xTwo.r {D : va_G} {X Y Y2 : xH} {I : Nat → Option Imm} {a ls bs mp la be b1 c1 b2 c2 b2' c2' : Nat} {l1 l2 l2' : List Nat} {g : Int32} (h : xTwo D X Y I a ls bs mp la be b1 c1 b2 c2 l1 l2 g) (hll : ls ≠ la) (hL : xLi D Y2 la b2' c2' l2') (hf : xFr [la, b2] Y Y2) (hn : b2' = b2 ∨ Y b2' = none) : xTwo D X Y2 I a ls bs mp la be b1 c1 b2' c2' l1 l2' g := by
  obtain ⟨h1, h2, h3, h4, h5, h6, h7, h8, h9⟩ := h
  obtain ⟨vl, k1⟩ := h3.ob
  obtain ⟨fl, k2⟩ := h3.ar
  obtain ⟨vk, k3⟩ := h4.ob
  obtain ⟨fk, k4⟩ := h4.ar
  refine ⟨hf.use h1 ?_, hf.use h2 ?_, h3.keepz hf ?_ ?_, hL, (h5.symm.new hf hn k2).symm, h6.keepL h4 hf, h7.fr hf (fun q hq => ?_), h8, ?_⟩
  · simp only [List.mem_cons, List.not_mem_nil, or_false, not_or]
    exact ⟨xne h1 k3 (by intro h; cases h), xne h1 k4 (by intro h; cases h)⟩
  · simp only [List.mem_cons, List.not_mem_nil, or_false, not_or]
    exact ⟨xne h2 k3 (by intro h; cases h), xne h2 k4 (by intro h; cases h)⟩
  · simp only [List.mem_cons, List.not_mem_nil, or_false, not_or]
    exact ⟨hll, xne k1 k4 (by intro h; cases h)⟩
  · rcases h5 with e | e
    · left
      simp only [List.mem_cons, List.not_mem_nil, or_false, not_or]
      exact ⟨xne k2 k3 (by intro h; cases h), e⟩
    · exact Or.inr e
  · rcases List.mem_cons.mp hq with e | e
    · exact Or.inl (by rw [e]; simp)
    · rw [show q = b2 by simpa using e]
      exact h9.imp (fun e => by rw [e]; simp) id
  · rcases hn with e | e
    · rw [e]
      exact h9
    · exact Or.inr (h7.2 _ e)
theorem take_len {α : Type} {l : List α} {i : Nat} (h : i ≤ l.length) : (l.take i).length = i := by rw [List.length_take]; omega
theorem mem_tk {α : Type} {l : List α} {i : Nat} {x : α} (h : x ∈ l.take i) : x ∈ l := List.mem_of_mem_take h
theorem xLi.lenc {D : va_G} {X : xH} {a b cap : Nat} {as : List Nat} (h : xLi D X a b cap as) : as.length ≤ cap := by
  obtain ⟨mo, f, -, -, h1, -⟩ := h
  exact h1
theorem xLi.capc {D : va_G} {X : xH} {a b cap : Nat} {as : List Nat} (h : xLi D X a b cap as) : cap ≤ 200 := by
  obtain ⟨mo, f, -, -, -, h1, -⟩ := h
  exact h1
set_option maxRecDepth 100000 in
set_option maxHeartbeats 4000000 in
theorem c_Ma_copyRowOf {l : Launch} {D : va_G} {H0 : Heap} {X : xH} {a ls bs cs mp la be ce : Nat} {as1 as2 : List Nat} {ss : List Ss} {es : List Es} {g : Int32} {a' ls' bs' cs' mp' la' be' ce' : Nat} {as1' as2' : List Nat} {ss' : List Ss} {es' : List Es} {g' : Int32} {I : Nat → Option Imm} (hI : xIm D X I) (hA : xMac D X I a ls bs cs mp la be ce as1 as2 ss es g) (hB : xMac D X I a' ls' bs' cs' mp' la' be' ce' as1' as2' ss' es' g') {d1 d2 : Nat} (hs : xSep X a ls bs mp la be a' ls' bs' mp' la' be') (hd1 : isL cs ss'.length d1) (hd2 : isL ce es'.length d2) : xMet l D H0 y_Ma_copyRowOf b_Ma_copyRowOf 3 none [] 6 ((d1 - cs) + (d2 - ce)) (200 * ((d1 - cs) + (d2 - ce))) [.ref a, .ref a'] X (fun o X' => o = .inl none ∧ xIm D X' I ∧ ∃ (b1 b2 : Nat), xMac D X' I a ls b1 d1 mp la b2 d2 as1' as2' ss' es' g ∧ xFr [ls, bs, mp, la, be] X X' ∧ (b1 = bs ∨ X b1 = none) ∧ (b2 = be ∨ X b2 = none)) := by
  obtain ⟨ha, hL, hE, hok, hM, hll, hbb⟩ := id hA
  obtain ⟨vl, hl⟩ := hL.ob
  have hlen := hE.1
  have hle := hL.len
  have hok1 := hok.1
  obtain ⟨ha', hL', hE', hok', hM', hll', hbb'⟩ := id hB
  obtain ⟨vl', hl'⟩ := hL'.ob
  have hlen' := hE'.1
  have hle' := hL'.len
  obtain ⟨hmp, hK, hF, hokm⟩ := id hM
  obtain ⟨vk, hk⟩ := hK.ob
  have hkl := hK.len
  have hkn := hF.1
  obtain ⟨hmp', hK', hF', hokm'⟩ := id hM'
  obtain ⟨vk', hk'⟩ := hK'.ob
  have hkl' := hK'.len
  have hkn' := hF'.1
  have hok1' := hok'.1
  have hokm1' := hokm'.1
  have hsub : ∀ q ∈ [ls, bs, mp, la, be], q ∈ [a, ls, bs, mp, la, be] := fun q hq => List.mem_cons_of_mem _ hq
  have hd1l := hd1.le
  have hd2l := hd2.le
  refine ⟨[some (.ref a), some (.ref a'), none], rfl, Nat.le_of_ble_eq_true rfl, fun E hD hH hl _ C => ?_⟩
  subst hD
  subst hH
  subst hl
  have loop2 : ∀ (k i c2 b1 b2 : Nat) (Y : xH), i + k = es'.length → isL c2 es'.length d2 → ce ≤ c2 → xTwo E.D X Y I a ls bs mp la be b1 d1 b2 c2 as1' (as2'.take i) g → xG E Y ((d1 - cs) + (c2 - ce)) (200 * ((d1 - cs) + (c2 - ce))) 44 [some (.ref a), some (.ref a'), some (.int (nI i))] [] := by
    intro k
    induction k with
    | zero =>
      intro i c2 b1 b2 Y hi hT hcc hZ
      have hTl := hT.le
      have hBY := hA.keepO hB hs (hZ.2.2.2.2.2.2.1.mono hsub)
      obtain ⟨haY, hmY, hlY, hkY, -, hIY, -⟩ := id hZ
      obtain ⟨vlY, hlY1⟩ := hlY.ob
      obtain ⟨vkY, hkY1⟩ := hkY.ob
      obtain ⟨haB, hLB, hEB, -, hMB, -, -⟩ := id hBY
      obtain ⟨hmB, hKB, hFB, -⟩ := id hMB
      obtain ⟨vlB, hlB1⟩ := hLB.ob
      obtain ⟨vkB, hkB1⟩ := hKB.ob
      refine xr_iload_n C d_Ma_copyRowOf_44 45 rfl rfl ?_
      refine xr_aload_n C d_Ma_copyRowOf_45 46 rfl rfl ?_
      refine xr_get C K_Ma 1 d_Ma_copyRowOf_46 49 rfl q_90 (Or.inl rfl) rfl (by first | assumption | exact xup_self | exact (xup_ne (by assumption)).trans (by assumption) | exact (xup_ne (Ne.symm (by assumption))).trans (by assumption) | exact (xup_ne (by assumption)).trans xup_self | exact (xup_ne (Ne.symm (by assumption))).trans xup_self) rfl ?_
      refine xr_get C K_KM 0 d_Ma_copyRowOf_49 52 rfl q_78 (Or.inl rfl) rfl (by first | assumption | exact xup_self | exact (xup_ne (by assumption)).trans (by assumption) | exact (xup_ne (Ne.symm (by assumption))).trans (by assumption) | exact (xup_ne (by assumption)).trans xup_self | exact (xup_ne (Ne.symm (by assumption))).trans xup_self) rfl ?_
      refine xr_callV C (l_size hKB) k_AL_size d_Ma_copyRowOf_52 55 rfl (by first | assumption | exact xup_self | exact (xup_ne (by assumption)).trans (by assumption) | exact (xup_ne (Ne.symm (by assumption))).trans (by assumption) | exact (xup_ne (by assumption)).trans xup_self | exact (xup_ne (Ne.symm (by assumption))).trans xup_self) rfl (Or.inl q_270) v_AL_size e_AL_size h_AL_size rfl ⟨Nat.le_of_ble_eq_true rfl, Nat.le_of_ble_eq_true rfl, Nat.le_of_ble_eq_true rfl⟩ (by omega) (by omega) (fun v9 Y hP => ?_) (fun _ _ h => absurd h.1 (by simp))
      obtain ⟨h1, rfl⟩ := hP
      cases h1
      refine xr_icmp_ge C d_Ma_copyRowOf_55 58 89 rfl (by decide) (fun _ => ?_) (fun h => absurd (nI_le (show as2'.length ≤ i by omega) (by omega)) h)
      have hcl := hkY.lenc
      rw [List.take_of_length_le (show as2'.length ≤ i by omega)] at hkY hcl
      have e9 : d2 = c2 := hT.fit (by omega)
      subst e9
      refine xr_aload_n C d_Ma_copyRowOf_89 90 rfl rfl ?_
      refine xr_get C K_Ma 1 d_Ma_copyRowOf_90 93 rfl q_90 (Or.inl rfl) rfl (by first | assumption | exact xup_self | exact (xup_ne (by assumption)).trans (by assumption) | exact (xup_ne (Ne.symm (by assumption))).trans (by assumption) | exact (xup_ne (by assumption)).trans xup_self | exact (xup_ne (Ne.symm (by assumption))).trans xup_self) rfl ?_
      refine xr_aload_n C d_Ma_copyRowOf_93 94 rfl rfl ?_
      refine xr_get C K_Ma 1 d_Ma_copyRowOf_94 97 rfl q_90 (Or.inl rfl) rfl (by first | assumption | exact xup_self | exact (xup_ne (by assumption)).trans (by assumption) | exact (xup_ne (Ne.symm (by assumption))).trans (by assumption) | exact (xup_ne (by assumption)).trans xup_self | exact (xup_ne (Ne.symm (by assumption))).trans xup_self) rfl ?_
      refine xr_get C K_KM 1 d_Ma_copyRowOf_97 100 rfl q_81 (Or.inl rfl) rfl (by first | assumption | exact xup_self | exact (xup_ne (by assumption)).trans (by assumption) | exact (xup_ne (Ne.symm (by assumption))).trans (by assumption) | exact (xup_ne (by assumption)).trans xup_self | exact (xup_ne (Ne.symm (by assumption))).trans xup_self) rfl ?_
      refine xr_put C K_KM 1 d_Ma_copyRowOf_100 103 rfl q_81 (Or.inl rfl) rfl rfl rfl rfl (by first | assumption | exact xup_self | exact (xup_ne (by assumption)).trans (by assumption) | exact (xup_ne (Ne.symm (by assumption))).trans (by assumption) | exact (xup_ne (by assumption)).trans xup_self | exact (xup_ne (Ne.symm (by assumption))).trans xup_self) rfl rfl ?_
      obtain ⟨-, -, -, -, z5, z6, z7, z8, z9⟩ := hZ
      have hfU : xFr [ls, bs, mp, la, be] X (xup Y mp (.inr (2, [.ref la, .int (nI (uns es'))]))) := z7.trans (xFr_up hmY (fun z => z) (by simp))
      refine xr_vret C d_Ma_copyRowOf_103 (by omega) (by omega) ⟨rfl, z6.up1 hmY (by decide) (by decide), b1, b2, ⟨?_, hlY.keep1 hmY (by decide), hE', hok', ⟨xup_self, hkY.keep1 hmY (by decide), hF', hokm'⟩, hll, z5.keep (S := [mp]) (xFr_up hmY (fun z => z) (by simp))⟩, hfU, z8, z9⟩
      exact (xup_ne (xne haY hmY (by intro h; cases h))).trans haY
    | succ k ih =>
      intro i c2 b1 b2 Y hi hT hcc hZ
      have hTl := hT.le
      have hBY := hA.keepO hB hs (hZ.2.2.2.2.2.2.1.mono hsub)
      obtain ⟨haY, hmY, hlY, hkY, -, hIY, -⟩ := id hZ
      obtain ⟨vlY, hlY1⟩ := hlY.ob
      obtain ⟨vkY, hkY1⟩ := hkY.ob
      obtain ⟨haB, hLB, hEB, -, hMB, -, -⟩ := id hBY
      obtain ⟨hmB, hKB, hFB, -⟩ := id hMB
      obtain ⟨vlB, hlB1⟩ := hLB.ob
      obtain ⟨vkB, hkB1⟩ := hKB.ob
      have i1 : i < as2'.length := by omega
      obtain ⟨p9, q9, k1, k2, k3, -⟩ := (hFB.2 i i1).use hIY
      have hkp : xLi E.D Y la b2 c2 (as2'.take i) ∧ i ≤ c2 := ⟨hkY, by have := hkY.lenc; rw [take_len (by omega)] at this; omega⟩
      refine xr_iload_n C d_Ma_copyRowOf_44 45 rfl rfl ?_
      refine xr_aload_n C d_Ma_copyRowOf_45 46 rfl rfl ?_
      refine xr_get C K_Ma 1 d_Ma_copyRowOf_46 49 rfl q_90 (Or.inl rfl) rfl (by first | assumption | exact xup_self | exact (xup_ne (by assumption)).trans (by assumption) | exact (xup_ne (Ne.symm (by assumption))).trans (by assumption) | exact (xup_ne (by assumption)).trans xup_self | exact (xup_ne (Ne.symm (by assumption))).trans xup_self) rfl ?_
      refine xr_get C K_KM 0 d_Ma_copyRowOf_49 52 rfl q_78 (Or.inl rfl) rfl (by first | assumption | exact xup_self | exact (xup_ne (by assumption)).trans (by assumption) | exact (xup_ne (Ne.symm (by assumption))).trans (by assumption) | exact (xup_ne (by assumption)).trans xup_self | exact (xup_ne (Ne.symm (by assumption))).trans xup_self) rfl ?_
      refine xr_callV C (l_size hKB) k_AL_size d_Ma_copyRowOf_52 55 rfl (by first | assumption | exact xup_self | exact (xup_ne (by assumption)).trans (by assumption) | exact (xup_ne (Ne.symm (by assumption))).trans (by assumption) | exact (xup_ne (by assumption)).trans xup_self | exact (xup_ne (Ne.symm (by assumption))).trans xup_self) rfl (Or.inl q_270) v_AL_size e_AL_size h_AL_size rfl ⟨Nat.le_of_ble_eq_true rfl, Nat.le_of_ble_eq_true rfl, Nat.le_of_ble_eq_true rfl⟩ (by omega) (by omega) (fun v9 Y hP => ?_) (fun _ _ h => absurd h.1 (by simp))
      obtain ⟨h1, rfl⟩ := hP
      cases h1
      refine xr_icmp_ge C d_Ma_copyRowOf_55 58 89 rfl (by decide) (fun h => absurd h (nI_ge i1 (by omega))) (fun _ => ?_)
      refine xr_aload_n C d_Ma_copyRowOf_58 59 rfl rfl ?_
      refine xr_get C K_Ma 1 d_Ma_copyRowOf_59 62 rfl q_90 (Or.inl rfl) rfl (by first | assumption | exact xup_self | exact (xup_ne (by assumption)).trans (by assumption) | exact (xup_ne (Ne.symm (by assumption))).trans (by assumption) | exact (xup_ne (by assumption)).trans xup_self | exact (xup_ne (Ne.symm (by assumption))).trans xup_self) rfl ?_
      refine xr_get C K_KM 0 d_Ma_copyRowOf_62 65 rfl q_78 (Or.inl rfl) rfl (by first | assumption | exact xup_self | exact (xup_ne (by assumption)).trans (by assumption) | exact (xup_ne (Ne.symm (by assumption))).trans (by assumption) | exact (xup_ne (by assumption)).trans xup_self | exact (xup_ne (Ne.symm (by assumption))).trans xup_self) rfl ?_
      refine xr_aload_n C d_Ma_copyRowOf_65 66 rfl rfl ?_
      refine xr_get C K_Ma 1 d_Ma_copyRowOf_66 69 rfl q_90 (Or.inl rfl) rfl (by first | assumption | exact xup_self | exact (xup_ne (by assumption)).trans (by assumption) | exact (xup_ne (Ne.symm (by assumption))).trans (by assumption) | exact (xup_ne (by assumption)).trans xup_self | exact (xup_ne (Ne.symm (by assumption))).trans xup_self) rfl ?_
      refine xr_get C K_KM 0 d_Ma_copyRowOf_69 72 rfl q_78 (Or.inl rfl) rfl (by first | assumption | exact xup_self | exact (xup_ne (by assumption)).trans (by assumption) | exact (xup_ne (Ne.symm (by assumption))).trans (by assumption) | exact (xup_ne (by assumption)).trans xup_self | exact (xup_ne (Ne.symm (by assumption))).trans xup_self) rfl ?_
      refine xr_iload_n C d_Ma_copyRowOf_72 73 rfl rfl ?_
      refine xr_callV C (l_get hKB i1) k_AL_get d_Ma_copyRowOf_73 76 rfl (by first | assumption | exact xup_self | exact (xup_ne (by assumption)).trans (by assumption) | exact (xup_ne (Ne.symm (by assumption))).trans (by assumption) | exact (xup_ne (by assumption)).trans xup_self | exact (xup_ne (Ne.symm (by assumption))).trans xup_self) rfl (Or.inl q_278) v_AL_get e_AL_get h_AL_get rfl ⟨Nat.le_of_ble_eq_true rfl, Nat.le_of_ble_eq_true rfl, Nat.le_of_ble_eq_true rfl⟩ (by omega) (by omega) (fun v9 Y hP => ?_) (fun _ _ h => absurd h.1 (by simp))
      obtain ⟨h1, rfl⟩ := hP
      cases h1
      refine xr_cast C d_Ma_copyRowOf_76 79 rfl k1 rfl q_830 ?_
      obtain ⟨k9, hk9, hk8⟩ : ∃ k : Nat, (c2 ≤ (as2'.take i).length → 1 ≤ k) ∧ k + c2 ≤ (if (as2'.take i).length < c2 then c2 else nx c2) := by
        by_cases h : (as2'.take i).length < c2
        · exact ⟨0, fun h1 => by omega, by rw [if_pos h]; omega⟩
        · exact ⟨1, fun _ => Nat.le_refl _, by rw [if_neg h]; have := nx_gt (c := c2); omega⟩
      rw [take_len (by omega)] at hk9 hk8
      have hst := hT.step (i := i) (by omega) (by have := hkp.2; omega)
      have hsl := hst.le
      refine xr_callV C (c_AL_add1 hkp.1 (by rw [take_len (by omega)]; omega) (fun q hq => (hFB.ob hIY) q (mem_tk hq)) ((hFB.2 i i1).ob hIY) (k := k9) (by rw [take_len (by omega)]; exact hk9)) k_AL_add1 d_Ma_copyRowOf_79 82 rfl (by first | assumption | exact xup_self | exact (xup_ne (by assumption)).trans (by assumption) | exact (xup_ne (Ne.symm (by assumption))).trans (by assumption) | exact (xup_ne (by assumption)).trans xup_self | exact (xup_ne (Ne.symm (by assumption))).trans xup_self) rfl (Or.inl q_334) v_AL_add1 e_AL_add1 h_AL_add1 rfl ⟨Nat.le_of_ble_eq_true rfl, Nat.le_of_ble_eq_true rfl, Nat.le_of_ble_eq_true rfl⟩ (by omega) (by omega) (fun v9 Y2 hP => ?_) (fun _ _ h => absurd h.1 (by simp))
      obtain ⟨e1, b9, g1, g2, g3⟩ := hP
      cases e1
      rw [take_len (by omega), ← takeg 0 (by omega)] at g1
      have hZ2 := hZ.r hll g1 g2 g3
      refine xr_pop C d_Ma_copyRowOf_82 83 rfl rfl ?_
      refine xr_iinc (v := 1) C d_Ma_copyRowOf_83 86 rfl rfl rfl rfl (by decide) ?_
      refine xr_goto C d_Ma_copyRowOf_86 44 (by decide) ?_
      refine xG.eqL (show _ = [some (Value.ref a), some (Value.ref a'), some (Value.int (nI (i + 1)))] by rw [← nI_one i]; rfl) ?_
      refine xG.wide (c2 := (d1 - cs) + ((if i < c2 then c2 else nx c2) - ce)) (s2 := 200 * ((d1 - cs) + ((if i < c2 then c2 else nx c2) - ce))) (by omega) (by omega) ?_
      exact ih (i + 1) _ _ _ Y2 (by omega) hst (by omega) hZ2
  have loop1 : ∀ (k i c1 b1 : Nat) (Y : xH), i + k = ss'.length → isL c1 ss'.length d1 → cs ≤ c1 → xTwo E.D X Y I a ls bs mp la be b1 c1 be ce (as1'.take i) [] g → xG E Y (c1 - cs) (200 * (c1 - cs)) 6 [some (.ref a), some (.ref a'), some (.int (nI i))] [] := by
    intro k
    induction k with
    | zero =>
      intro i c1 b1 Y hi hT hcc hZ
      have hTl := hT.le
      have hBY := hA.keepO hB hs (hZ.2.2.2.2.2.2.1.mono hsub)
      obtain ⟨haY, hmY, hlY, hkY, -, hIY, -⟩ := id hZ
      obtain ⟨vlY, hlY1⟩ := hlY.ob
      obtain ⟨vkY, hkY1⟩ := hkY.ob
      obtain ⟨haB, hLB, hEB, -, hMB, -, -⟩ := id hBY
      obtain ⟨hmB, hKB, hFB, -⟩ := id hMB
      obtain ⟨vlB, hlB1⟩ := hLB.ob
      obtain ⟨vkB, hkB1⟩ := hKB.ob
      refine xr_iload_n C d_Ma_copyRowOf_6 7 rfl rfl ?_
      refine xr_aload_n C d_Ma_copyRowOf_7 8 rfl rfl ?_
      refine xr_get C K_Ma 0 d_Ma_copyRowOf_8 11 rfl q_88 (Or.inl rfl) rfl (by first | assumption | exact xup_self | exact (xup_ne (by assumption)).trans (by assumption) | exact (xup_ne (Ne.symm (by assumption))).trans (by assumption) | exact (xup_ne (by assumption)).trans xup_self | exact (xup_ne (Ne.symm (by assumption))).trans xup_self) rfl ?_
      refine xr_callV C (l_size hLB) k_AL_size d_Ma_copyRowOf_11 14 rfl (by first | assumption | exact xup_self | exact (xup_ne (by assumption)).trans (by assumption) | exact (xup_ne (Ne.symm (by assumption))).trans (by assumption) | exact (xup_ne (by assumption)).trans xup_self | exact (xup_ne (Ne.symm (by assumption))).trans xup_self) rfl (Or.inl q_270) v_AL_size e_AL_size h_AL_size rfl ⟨Nat.le_of_ble_eq_true rfl, Nat.le_of_ble_eq_true rfl, Nat.le_of_ble_eq_true rfl⟩ (by omega) (by omega) (fun v9 Y hP => ?_) (fun _ _ h => absurd h.1 (by simp))
      obtain ⟨h1, rfl⟩ := hP
      cases h1
      refine xr_icmp_ge C d_Ma_copyRowOf_14 17 42 rfl (by decide) (fun _ => ?_) (fun h => absurd (nI_le (show as1'.length ≤ i by omega) (by omega)) h)
      have hcl := hlY.lenc
      rw [List.take_of_length_le (show as1'.length ≤ i by omega)] at hZ hcl
      have e9 : d1 = c1 := hT.fit (by omega)
      subst e9
      refine xr_iconst (v := 0) C d_Ma_copyRowOf_42 43 rfl (by decide) ?_
      refine xr_istore_n C d_Ma_copyRowOf_43 44 rfl rfl rfl ?_
      refine xG.wide (c2 := (d1 - cs) + (ce - ce)) (s2 := 200 * ((d1 - cs) + (ce - ce))) (by omega) (by omega) ?_
      exact loop2 es'.length 0 ce b1 be Y (by omega) hd2 (Nat.le_refl _) hZ
    | succ k ih =>
      intro i c1 b1 Y hi hT hcc hZ
      have hTl := hT.le
      have hBY := hA.keepO hB hs (hZ.2.2.2.2.2.2.1.mono hsub)
      obtain ⟨haY, hmY, hlY, hkY, -, hIY, -⟩ := id hZ
      obtain ⟨vlY, hlY1⟩ := hlY.ob
      obtain ⟨vkY, hkY1⟩ := hkY.ob
      obtain ⟨haB, hLB, hEB, -, hMB, -, -⟩ := id hBY
      obtain ⟨hmB, hKB, hFB, -⟩ := id hMB
      obtain ⟨vlB, hlB1⟩ := hLB.ob
      obtain ⟨vkB, hkB1⟩ := hKB.ob
      have i1 : i < as1'.length := by omega
      obtain ⟨q9, k1, k2, k3⟩ := (hEB.2 i i1).use hIY
      have hkp : xLi E.D Y ls b1 c1 (as1'.take i) ∧ i ≤ c1 := ⟨hlY, by have := hlY.lenc; rw [take_len (by omega)] at this; omega⟩
      refine xr_iload_n C d_Ma_copyRowOf_6 7 rfl rfl ?_
      refine xr_aload_n C d_Ma_copyRowOf_7 8 rfl rfl ?_
      refine xr_get C K_Ma 0 d_Ma_copyRowOf_8 11 rfl q_88 (Or.inl rfl) rfl (by first | assumption | exact xup_self | exact (xup_ne (by assumption)).trans (by assumption) | exact (xup_ne (Ne.symm (by assumption))).trans (by assumption) | exact (xup_ne (by assumption)).trans xup_self | exact (xup_ne (Ne.symm (by assumption))).trans xup_self) rfl ?_
      refine xr_callV C (l_size hLB) k_AL_size d_Ma_copyRowOf_11 14 rfl (by first | assumption | exact xup_self | exact (xup_ne (by assumption)).trans (by assumption) | exact (xup_ne (Ne.symm (by assumption))).trans (by assumption) | exact (xup_ne (by assumption)).trans xup_self | exact (xup_ne (Ne.symm (by assumption))).trans xup_self) rfl (Or.inl q_270) v_AL_size e_AL_size h_AL_size rfl ⟨Nat.le_of_ble_eq_true rfl, Nat.le_of_ble_eq_true rfl, Nat.le_of_ble_eq_true rfl⟩ (by omega) (by omega) (fun v9 Y hP => ?_) (fun _ _ h => absurd h.1 (by simp))
      obtain ⟨h1, rfl⟩ := hP
      cases h1
      refine xr_icmp_ge C d_Ma_copyRowOf_14 17 42 rfl (by decide) (fun h => absurd h (nI_ge i1 (by omega))) (fun _ => ?_)
      refine xr_aload_n C d_Ma_copyRowOf_17 18 rfl rfl ?_
      refine xr_get C K_Ma 0 d_Ma_copyRowOf_18 21 rfl q_88 (Or.inl rfl) rfl (by first | assumption | exact xup_self | exact (xup_ne (by assumption)).trans (by assumption) | exact (xup_ne (Ne.symm (by assumption))).trans (by assumption) | exact (xup_ne (by assumption)).trans xup_self | exact (xup_ne (Ne.symm (by assumption))).trans xup_self) rfl ?_
      refine xr_aload_n C d_Ma_copyRowOf_21 22 rfl rfl ?_
      refine xr_get C K_Ma 0 d_Ma_copyRowOf_22 25 rfl q_88 (Or.inl rfl) rfl (by first | assumption | exact xup_self | exact (xup_ne (by assumption)).trans (by assumption) | exact (xup_ne (Ne.symm (by assumption))).trans (by assumption) | exact (xup_ne (by assumption)).trans xup_self | exact (xup_ne (Ne.symm (by assumption))).trans xup_self) rfl ?_
      refine xr_iload_n C d_Ma_copyRowOf_25 26 rfl rfl ?_
      refine xr_callV C (l_get hLB i1) k_AL_get d_Ma_copyRowOf_26 29 rfl (by first | assumption | exact xup_self | exact (xup_ne (by assumption)).trans (by assumption) | exact (xup_ne (Ne.symm (by assumption))).trans (by assumption) | exact (xup_ne (by assumption)).trans xup_self | exact (xup_ne (Ne.symm (by assumption))).trans xup_self) rfl (Or.inl q_278) v_AL_get e_AL_get h_AL_get rfl ⟨Nat.le_of_ble_eq_true rfl, Nat.le_of_ble_eq_true rfl, Nat.le_of_ble_eq_true rfl⟩ (by omega) (by omega) (fun v9 Y hP => ?_) (fun _ _ h => absurd h.1 (by simp))
      obtain ⟨h1, rfl⟩ := hP
      cases h1
      refine xr_cast C d_Ma_copyRowOf_29 32 rfl k1 rfl q_292 ?_
      obtain ⟨k9, hk9, hk8⟩ : ∃ k : Nat, (c1 ≤ (as1'.take i).length → 1 ≤ k) ∧ k + c1 ≤ (if (as1'.take i).length < c1 then c1 else nx c1) := by
        by_cases h : (as1'.take i).length < c1
        · exact ⟨0, fun h1 => by omega, by rw [if_pos h]; omega⟩
        · exact ⟨1, fun _ => Nat.le_refl _, by rw [if_neg h]; have := nx_gt (c := c1); omega⟩
      rw [take_len (by omega)] at hk9 hk8
      have hst := hT.step (i := i) (by omega) (by have := hkp.2; omega)
      have hsl := hst.le
      refine xr_callV C (c_AL_add1 hkp.1 (by rw [take_len (by omega)]; omega) (fun q hq => (hEB.ob hIY) q (mem_tk hq)) ((hEB.2 i i1).ob hIY) (k := k9) (by rw [take_len (by omega)]; exact hk9)) k_AL_add1 d_Ma_copyRowOf_32 35 rfl (by first | assumption | exact xup_self | exact (xup_ne (by assumption)).trans (by assumption) | exact (xup_ne (Ne.symm (by assumption))).trans (by assumption) | exact (xup_ne (by assumption)).trans xup_self | exact (xup_ne (Ne.symm (by assumption))).trans xup_self) rfl (Or.inl q_334) v_AL_add1 e_AL_add1 h_AL_add1 rfl ⟨Nat.le_of_ble_eq_true rfl, Nat.le_of_ble_eq_true rfl, Nat.le_of_ble_eq_true rfl⟩ (by omega) (by omega) (fun v9 Y2 hP => ?_) (fun _ _ h => absurd h.1 (by simp))
      obtain ⟨e1, b9, g1, g2, g3⟩ := hP
      cases e1
      rw [take_len (by omega), ← takeg 0 (by omega)] at g1
      have hZ2 := hZ.l hll g1 g2 g3
      refine xr_pop C d_Ma_copyRowOf_35 36 rfl rfl ?_
      refine xr_iinc (v := 1) C d_Ma_copyRowOf_36 39 rfl rfl rfl rfl (by decide) ?_
      refine xr_goto C d_Ma_copyRowOf_39 6 (by decide) ?_
      refine xG.eqL (show _ = [some (Value.ref a), some (Value.ref a'), some (Value.int (nI (i + 1)))] by rw [← nI_one i]; rfl) ?_
      refine xG.wide (c2 := ((if i < c1 then c1 else nx c1) - cs)) (s2 := 200 * ((if i < c1 then c1 else nx c1) - cs)) (by omega) (by omega) ?_
      exact ih (i + 1) _ _ Y2 (by omega) hst (by omega) hZ2
  refine xr_aload_n C d_Ma_copyRowOf_0 1 rfl rfl ?_
  refine xr_callV C (c_Ma_forget hI hA) k_Ma_forget d_Ma_copyRowOf_1 4 rfl (by first | assumption | exact xup_self | exact (xup_ne (by assumption)).trans (by assumption) | exact (xup_ne (Ne.symm (by assumption))).trans (by assumption) | exact (xup_ne (by assumption)).trans xup_self | exact (xup_ne (Ne.symm (by assumption))).trans xup_self) rfl (Or.inl q_870) v_Ma_forget e_Ma_forget h_Ma_forget rfl ⟨Nat.le_of_ble_eq_true rfl, Nat.le_of_ble_eq_true rfl, Nat.le_of_ble_eq_true rfl⟩ (by omega) (by omega) (fun v9 Y hP => ?_) (fun _ _ h => absurd h.1 (by simp))
  obtain ⟨e1, f1, f2, f3⟩ := hP
  cases e1
  obtain ⟨w1, w2, w3, w4, w5, w6, w7⟩ := f2
  refine xr_iconst (v := 0) C d_Ma_copyRowOf_4 5 rfl (by decide) ?_
  refine xr_istore_n C d_Ma_copyRowOf_5 6 rfl rfl rfl ?_
  refine xG.wide (c2 := cs - cs) (s2 := 200 * (cs - cs)) (by omega) (by omega) ?_
  exact loop1 ss'.length 0 cs bs Y (by omega) hd1 (Nat.le_refl _) ⟨w1, w5.1, w2, w5.2.1, w7, f1, f3, Or.inl rfl, Or.inl rfl⟩
set_option maxRecDepth 100000 in
set_option maxHeartbeats 4000000 in
theorem c_Ma_init {l : Launch} {D : va_G} {H0 : Heap} {X : xH} {a : Nat} {w0 w1 w2 : Value} (ha : X a = some (.inr (1, [w0, w1, w2]))) : xMet l D H0 y_Ma_init b_Ma_init 1 none [] 4 3 8 [.ref a] X (fun o X' => o = .inl none ∧ ∃ ls mp la : Nat, X ls = none ∧ X mp = none ∧ X la = none ∧ ls ≠ la ∧ X' ls = some (.inr (7, [.int 0, .ref (D.2 200 1), .int 0])) ∧ X' la = some (.inr (7, [.int 0, .ref (D.2 200 1), .int 0])) ∧ X' mp = some (.inr (2, [.ref la, .int 0])) ∧ X' a = some (.inr (1, [.ref ls, .ref mp, .int 0])) ∧ xFr [a] X X') := by
  refine ⟨[some (.ref a)], rfl, Nat.le_of_ble_eq_true rfl, fun E hD hH hl _ C => ?_⟩
  subst hD
  subst hH
  subst hl
  refine xr_aload_n C d_Ma_init_0 1 rfl rfl ?_
  refine xr_objInit C d_Ma_init_1 4 rfl q_42 w_oi w_oc (Nat.le_of_ble_eq_true rfl) ?_
  refine xr_aload_n C d_Ma_init_4 5 rfl rfl ?_
  refine xr_new (fs := [.int 0, .null, .int 0]) C K_AL d_Ma_init_5 8 rfl q_43 q_44 q_5 (by intro j hj; match j, hj with | 0, _ => rfl | 1, _ => rfl | 2, _ => rfl) (by omega) (by omega) (fun ls hls => ?_)
  refine xr_dup C d_Ma_init_8 9 rfl rfl ?_
  refine xr_callI C (c_AL_init xup_self) kc_AL_init d_Ma_init_9 12 rfl (Or.inl q_45) v_AL_init rfl h_AL_init rfl ⟨Nat.le_of_ble_eq_true rfl, Nat.le_of_ble_eq_true rfl, Nat.le_of_ble_eq_true rfl⟩ (by omega) (by omega) (fun v9 X' hP => ?_) (fun _ _ h => absurd h.1 (by simp))
  obtain ⟨h1, rfl⟩ := hP
  cases h1
  refine xG.eqX xup_up ?_
  refine xr_putF C K_Ma 0 d_Ma_init_12 15 rfl q_88 (Or.inl rfl) rfl rfl rfl rfl rfl rfl (xup_fresh ha hls) rfl rfl ?_
  refine xr_aload_n C d_Ma_init_15 16 rfl rfl ?_
  obtain ⟨X1, hX1⟩ : ∃ z, z = xup (xup X ls (.inr (7, [.int 0, .ref (E.D.2 200 1), .int 0]))) a (.inr (1, [.ref ls, w1, w2])) := ⟨_, rfl⟩
  refine xG.eqX (show _ = X1 from hX1.symm) ?_
  have hlsa : ls ≠ a := Ne.symm (xne_none ha hls)
  have hls1 : X1 ls = some (.inr (7, [.int 0, .ref (E.D.2 200 1), .int 0])) := by rw [hX1]; exact (xup_ne hlsa).trans xup_self
  have ha1 : X1 a = some (.inr (1, [.ref ls, w1, w2])) := by rw [hX1]; exact xup_self
  have hf1 : xFr [a] X X1 := by rw [hX1]; exact (xFr_new hls).trans (xFr_up (xup_fresh ha hls) (fun z => z) (by simp))
  refine xr_new (fs := [.null, .int 0]) C K_KM d_Ma_init_16 19 rfl q_69 q_70 q_6 (by intro j hj; match j, hj with | 0, _ => rfl | 1, _ => rfl) (by omega) (by omega) (fun mp hmp => ?_)
  refine xr_dup C d_Ma_init_19 20 rfl rfl ?_
  refine xr_callI C (c_KM_init xup_self) kc_KM_init d_Ma_init_20 23 rfl (Or.inr ⟨_, q_71⟩) v_KM_init rfl h_KM_init rfl ⟨Nat.le_of_ble_eq_true rfl, Nat.le_of_ble_eq_true rfl, Nat.le_of_ble_eq_true rfl⟩ (by omega) (by omega) (fun v9 X' hP => ?_) (fun _ _ h => absurd h.1 (by simp))
  obtain ⟨h1, la, hla, rfl⟩ := hP
  cases h1
  have hmla : mp ≠ la := xne_none xup_self hla
  have hla1 : X1 la = none := (xup_ne (Ne.symm hmla)).symm.trans hla
  have hamp : a ≠ mp := xne_none ha1 hmp
  have hala : a ≠ la := xne_none ha1 hla1
  have hlsmp : ls ≠ mp := xne_none hls1 hmp
  have hlsla : ls ≠ la := xne_none hls1 hla1
  obtain ⟨X2, hX2⟩ : ∃ z, z = xup (xup (xup X1 mp (.inr (2, [.null, .int 0]))) la (.inr (7, [.int 0, .ref (E.D.2 200 1), .int 0]))) mp (.inr (2, [.ref la, .int 0])) := ⟨_, rfl⟩
  refine xG.eqX (show _ = X2 from hX2.symm) ?_
  have ha2 : X2 a = some (.inr (1, [.ref ls, w1, w2])) := by rw [hX2]; exact (xup_ne hamp).trans ((xup_ne hala).trans ((xup_ne hamp).trans ha1))
  have hls2 : X2 ls = some (.inr (7, [.int 0, .ref (E.D.2 200 1), .int 0])) := by rw [hX2]; exact (xup_ne hlsmp).trans ((xup_ne hlsla).trans ((xup_ne hlsmp).trans hls1))
  have hmp2 : X2 mp = some (.inr (2, [.ref la, .int 0])) := by rw [hX2]; exact xup_self
  have hla2 : X2 la = some (.inr (7, [.int 0, .ref (E.D.2 200 1), .int 0])) := by rw [hX2]; exact (xup_ne (Ne.symm hmla)).trans xup_self
  have hf2 : xFr [a] X1 X2 := by rw [hX2]; exact ((xFr_new hmp).fresh hla1).fresh hmp
  refine xr_putF C K_Ma 1 d_Ma_init_23 26 rfl q_90 (Or.inl rfl) rfl rfl rfl rfl rfl rfl (by first | assumption | exact xup_self | exact (xup_ne (by assumption)).trans (by assumption) | exact (xup_ne (Ne.symm (by assumption))).trans (by assumption) | exact (xup_ne (by assumption)).trans xup_self | exact (xup_ne (Ne.symm (by assumption))).trans xup_self) rfl rfl ?_
  refine xr_aload_n C d_Ma_init_26 27 rfl rfl ?_
  refine xr_iconst (v := 0) C d_Ma_init_27 28 rfl (by decide) ?_
  refine xr_put C K_Ma 2 d_Ma_init_28 31 rfl q_92 (Or.inl rfl) rfl rfl rfl rfl (by first | assumption | exact xup_self | exact (xup_ne (by assumption)).trans (by assumption) | exact (xup_ne (Ne.symm (by assumption))).trans (by assumption) | exact (xup_ne (by assumption)).trans xup_self | exact (xup_ne (Ne.symm (by assumption))).trans xup_self) rfl rfl ?_
  refine xr_vret C d_Ma_init_31 (by omega) (by omega) ⟨rfl, ls, mp, la, hls, hf1.2 _ hmp, hf1.2 _ hla1, hlsla, ?_, ?_, ?_, xup_self, ?_⟩
  · exact (xup_ne hlsa).trans ((xup_ne hlsa).trans hls2)
  · exact (xup_ne (Ne.symm hala)).trans ((xup_ne (Ne.symm hala)).trans hla2)
  · exact (xup_ne (Ne.symm hamp)).trans ((xup_ne (Ne.symm hamp)).trans hmp2)
  · exact (hf1.trans hf2).trans ((xFr_up ha2 (fun z => z) (by simp)).trans (xFr_up xup_self (fun z => z) (by simp)))
