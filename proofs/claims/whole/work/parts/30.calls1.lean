/-! The calls. -/
section XO2
variable {D : va_G} {X X' : xH} {F V : Nat → Nat} {I I' : Nat → Option Imm} {i : Nat} {m o m' : Mc} {bs cs be ce br rc b1 c1 b2 c2 br' rc' : Nat} {ts res res' : List Int32} {n lp n' lp' : Int32} {as1 as2 as1' as2' : List Nat}
theorem xMac.keepO2 {a ls bs cs mp la be ce r br rc : Nat} {zs : List Int32} {as1 as2 : List Nat} {ss : List Ss} {es : List Es} {g : Int32} {a' ls' bs' cs' mp' la' be' ce' : Nat} {as1' as2' : List Nat} {ss' : List Ss} {es' : List Es} {g' : Int32} (hA : xMac D X I a ls bs cs mp la be ce as1 as2 ss es g) (hB : xMac D X I a' ls' bs' cs' mp' la' be' ce' as1' as2' ss' es' g') (hR : xRow D X r br rc zs) (hs : xSep X a ls bs mp la be a' ls' bs' mp' la' be') (hf : xFr [a, ls, bs, mp, la, be, r, br] X X') : xMac D X' I a' ls' bs' cs' mp' la' be' ce' as1' as2' ss' es' g' := by
  obtain ⟨ha, hL, hE, hok, hM, hll, hbb⟩ := hA
  obtain ⟨vl, hl⟩ := hL.ob
  obtain ⟨fb, hb⟩ := hL.ar
  obtain ⟨vk, hk⟩ := hM.2.1.ob
  obtain ⟨fe, he⟩ := hM.2.1.ar
  have hm := hM.1
  obtain ⟨ha', hL', hE', hok', hM', hll', hbb'⟩ := id hB
  obtain ⟨vl', hl'⟩ := hL'.ob
  obtain ⟨fb', hb'⟩ := hL'.ar
  obtain ⟨vk', hk'⟩ := hM'.2.1.ob
  obtain ⟨fe', he'⟩ := hM'.2.1.ar
  have hm' := hM'.1
  have hr := hR.at
  obtain ⟨fr, hbr⟩ := hR.arr
  obtain ⟨s1, s2, s3, s4, s5, s6, s7, s8, s9, s10⟩ := hs
  refine hB.keepS hf ?_ ?_ ?_ ?_ ?_ ?_
  · simp only [List.mem_cons, List.not_mem_nil, or_false, not_or]
    exact ⟨s1.symm, xne ha' hl (by intro h; cases h), xne ha' hb (by intro h; cases h), xne ha' hm (by intro h; cases h), xne ha' hk (by intro h; cases h), xne ha' he (by intro h; cases h), xne ha' hr (by intro h; cases h), xne ha' hbr (by intro h; cases h)⟩
  · simp only [List.mem_cons, List.not_mem_nil, or_false, not_or]
    exact ⟨xne hl' ha (by intro h; cases h), s3.symm, xne hl' hb (by intro h; cases h), xne hl' hm (by intro h; cases h), s5.symm, xne hl' he (by intro h; cases h), xne hl' hr (by intro h; cases h), xne hl' hbr (by intro h; cases h)⟩
  · rcases s7.symm with h1 | h1
    · rcases s9.symm with h2 | h2
      · left
        simp only [List.mem_cons, List.not_mem_nil, or_false, not_or]
        exact ⟨xne hb' ha (by intro h; cases h), xne hb' hl (by intro h; cases h), h1, xne hb' hm (by intro h; cases h), xne hb' hk (by intro h; cases h), h2, xne hb' hr (by intro h; cases h), xne hb' hbr xkd⟩
      · exact Or.inr h2
    · exact Or.inr h1
  · simp only [List.mem_cons, List.not_mem_nil, or_false, not_or]
    exact ⟨xne hm' ha (by intro h; cases h), xne hm' hl (by intro h; cases h), xne hm' hb (by intro h; cases h), s2.symm, xne hm' hk (by intro h; cases h), xne hm' he (by intro h; cases h), xne hm' hr (by intro h; cases h), xne hm' hbr (by intro h; cases h)⟩
  · simp only [List.mem_cons, List.not_mem_nil, or_false, not_or]
    exact ⟨xne hk' ha (by intro h; cases h), s4.symm, xne hk' hb (by intro h; cases h), xne hk' hm (by intro h; cases h), s6.symm, xne hk' he (by intro h; cases h), xne hk' hr (by intro h; cases h), xne hk' hbr (by intro h; cases h)⟩
  · rcases s8.symm with h1 | h1
    · rcases s10.symm with h2 | h2
      · left
        simp only [List.mem_cons, List.not_mem_nil, or_false, not_or]
        exact ⟨xne he' ha (by intro h; cases h), xne he' hl (by intro h; cases h), h1, xne he' hm (by intro h; cases h), xne he' hk (by intro h; cases h), h2, xne he' hr (by intro h; cases h), xne he' hbr xkd⟩
      · exact Or.inr h2
    · exact Or.inr h1
theorem xOw.all (h : xOw D X F V I i m o bs cs be ce br rc ts res n lp as1 as2) (hx : imX X I I') (hI : xIm D X' I') (hm : xMac D X' I' (F (10 + i)) (F (20 + i)) b1 c1 (F (30 + i)) (F (40 + i)) b2 c2 as1' as2' m'.1 m'.2.1 m'.2.2) (hr' : xRow D X' (F 2) br' rc' res') (hbn : I' br' = none) (hf : xFr [F (10 + i), F (20 + i), bs, F (30 + i), F (40 + i), be, F 2, br] X X') (n1 : b1 = bs ∨ X b1 = none) (n2 : b2 = be ∨ X b2 = none) (n3 : br' = br ∨ X br' = none) : xOw D X' F V I' i m' o b1 c1 b2 c2 br' rc' ts res' n lp as1' as2' := by
  obtain ⟨h1, h2, h3, h4, h5, h6, h7, h8, h9, h10, h11⟩ := h
  obtain ⟨ha, hL, hE, hok, hM, hll, hbb⟩ := id h9
  obtain ⟨vl, hl⟩ := hL.ob
  obtain ⟨fb, hb⟩ := hL.ar
  obtain ⟨vk, hk⟩ := hM.2.1.ob
  obtain ⟨fe, he⟩ := hM.2.1.ar
  have hmm := hM.1
  obtain ⟨ft, ht, htt⟩ := id h2
  obtain ⟨fr, hr⟩ := h5.arr
  have hra := h5.at
  obtain ⟨a3, a4, hB⟩ := h10
  obtain ⟨fb', hb'⟩ := hB.2.1.ar
  obtain ⟨fe', he'⟩ := hB.2.2.2.2.1.2.1.ar
  refine ⟨hf.use h1 ?_, h2.keep hf ?_, hx.2 _ _ ht h3, ?_, hr', hbn, hI, hx.1 _ _ h8, hm, ⟨a3, a4, (h9.keepO2 hB h5 h11 hf).le hx.1⟩, h11.new hf n1 n2 hb' he'⟩
  · simp only [List.mem_cons, List.not_mem_nil, or_false, not_or]
    exact ⟨xne h1 ha (by intro h; cases h), xne h1 hl (by intro h; cases h), xne h1 hb (by intro h; cases h), xne h1 hmm (by intro h; cases h), xne h1 hk (by intro h; cases h), xne h1 he (by intro h; cases h), xne h1 hra (by intro h; cases h), xne h1 hr (by intro h; cases h)⟩
  · simp only [List.mem_cons, List.not_mem_nil, or_false, not_or]
    exact ⟨xne ht ha (by intro h; cases h), xne ht hl (by intro h; cases h), (xne hb ht xkd).symm, xne ht hmm (by intro h; cases h), xne ht hk (by intro h; cases h), (xne he ht xkd).symm, xne ht hra (by intro h; cases h), h4⟩
  · rcases n3 with e | e
    · rw [e]
      exact h4
    · exact xne_none ht e
/-- the map and the row have changed -/
theorem xOw.q {es' : List Es} {ans : List Int32} (h : xOw D X F V I i m o bs cs be ce br rc ts res n lp as1 as2) (hq : xQ D X X' I (F 2) br rc (F (30 + i)) (F (40 + i)) be ce es' ans) : ∃ I' b' c' a' br', imX X I I' ∧ ce ≤ c' ∧ xOw D X' F V I' i (m.1, es', m.2.2) o bs cs b' c' br' rc ts ans n lp as1 a' := by
  obtain ⟨I', b', c', a', br', q1, q2, q3, q4, q5, q6, q7, q8, q9⟩ := hq
  obtain ⟨h1, h2, h3, h4, h5, h6, h7, h8, h9, h10, h11⟩ := id h
  obtain ⟨ha, hL, hE, hok, hM, hll, hbb⟩ := id h9
  obtain ⟨vl, hl⟩ := hL.ob
  obtain ⟨fb, hb⟩ := hL.ar
  obtain ⟨vk, hk⟩ := hM.2.1.ob
  obtain ⟨fe, he⟩ := hM.2.1.ar
  have hmm := hM.1
  have hra := h5.at
  obtain ⟨fr, hr⟩ := h5.arr
  have n1 : F (10 + i) ∉ [F (30 + i), F (40 + i), be, F 2, br] := by
    simp only [List.mem_cons, List.not_mem_nil, or_false, not_or]
    exact ⟨xne ha hmm (by intro h; cases h), xne ha hk (by intro h; cases h), xne ha he (by intro h; cases h), xne ha hra (by intro h; cases h), xne ha hr (by intro h; cases h)⟩
  have n2 : F (20 + i) ∉ [F (30 + i), F (40 + i), be, F 2, br] := by
    simp only [List.mem_cons, List.not_mem_nil, or_false, not_or]
    exact ⟨xne hl hmm (by intro h; cases h), hll, xne hl he (by intro h; cases h), xne hl hra (by intro h; cases h), xne hl hr (by intro h; cases h)⟩
  have n3 : bs ∉ [F (30 + i), F (40 + i), be, F 2, br] ∨ xz0 X bs := by
    rcases hbb with e | e
    · left
      simp only [List.mem_cons, List.not_mem_nil, or_false, not_or]
      exact ⟨xne hb hmm (by intro h; cases h), xne hb hk (by intro h; cases h), e, xne hb hra (by intro h; cases h), xne hb hr xkd⟩
    · exact Or.inr e
  refine ⟨I', b', c', a', br', q1, q9, h.all q1 q2 ⟨q6.use ha n1, hL.keepz q6 n2 n3, hE.le q1.1, hok, q3, hll, (hbb.symm.new q6 q7 hb).symm⟩ q4 q5 (q6.mono (fun q hq => List.mem_cons_of_mem _ (List.mem_cons_of_mem _ (List.mem_cons_of_mem _ hq)))) (Or.inl rfl) q7 q8⟩
/-- something new that never changes -/
theorem xOw.alloc (h : xOw D X F V I i m o bs cs be ce br rc ts res n lp as1 as2) (hf : xFr [] X X') (hx : imX X I I') (hI : xIm D X' I') : xOw D X' F V I' i m o bs cs be ce br rc ts res n lp as1 as2 :=
  h.mach hx hI ((h.2.2.2.2.2.2.2.2.1.keepS hf List.not_mem_nil List.not_mem_nil (Or.inl List.not_mem_nil) List.not_mem_nil List.not_mem_nil (Or.inl List.not_mem_nil)).le hx.1) (hf.mono (fun q hq => absurd hq List.not_mem_nil)) (Or.inl rfl) (Or.inl rfl)
/-- the greatest place is set -/
theorem xOw.setg {g : Int32} (h : xOw D X F V I i m o bs cs be ce br rc ts res n lp as1 as2) : xOw D (xup X (F (10 + i)) (.inr (1, [.ref (F (20 + i)), .ref (F (30 + i)), .int g]))) F V I i (m.1, m.2.1, g) o bs cs be ce br rc ts res n lp as1 as2 := by
  obtain ⟨h1, h2, h3, h4, h5, h6, h7, h8, h9, h10, h11⟩ := id h
  obtain ⟨ha, hL, hE, hok, hM, hll, hbb⟩ := id h9
  obtain ⟨vk, hk⟩ := hM.2.1.ob
  obtain ⟨fe, he⟩ := hM.2.1.ar
  have hf : ∀ v, xFr [F (10 + i)] X (xup X (F (10 + i)) v) := fun v => xFr_up ha (fun z => z) (by simp)
  refine h.mach imX.rf (h7.up1 ha (by decide) (by decide)) ⟨xup_self, hL.keep1 ha (by decide), hE, hok, ⟨(xup_ne (xne hM.1 ha (by intro h; cases h))).trans hM.1, hM.2.1.keep1 ha (by decide), hM.2.2⟩, hll, hbb.keep (hf _)⟩ ((hf _).mono (fun q hq => by rw [List.mem_singleton.mp hq]; simp)) (Or.inl rfl) (Or.inl rfl)
theorem xOw.rs {ans : List Int32} (h : xOw D X F V I i m o bs cs be ce br rc ts res n lp as1 as2) (hs : xRs D X X' I (F 2) br rc ans) : ∃ br', xOw D X' F V I i m o bs cs be ce br' rc ts ans n lp as1 as2 := by
  obtain ⟨br', a1, a2, a3, a4, a5⟩ := hs
  exact ⟨br', h.row a3 a1 a2 a4 a5⟩
theorem xOw.emp (h : xOw D X F V I i m o bs cs be ce br rc ts res n lp as1 as2) (hr : xRow D X' (F 2) br rc []) (hf : xFr [F 2] X X') : xOw D X' F V I i m o bs cs be ce br rc ts [] n lp as1 as2 := by
  obtain ⟨h1, h2, h3, h4, h5, h6, h7, h8, h9, h10, h11⟩ := id h
  have hf2 : xFr [F 2, br] X X' := hf.mono (fun q hq => by rw [List.mem_singleton.mp hq]; simp)
  refine h.row (h7.keep hf (fun a ha => ?_)) hr h6 hf2 (Or.inl rfl)
  rw [List.mem_singleton.mp ha]
  exact h5.nob h7
end XO2
theorem xTape.nil {D : va_G} {X : xH} {tp : Nat} {ts : List Int32} (h : xTape D X tp ts) : xTape D X tp [] := by
  obtain ⟨f, h1, h2, h3, h4⟩ := h
  exact ⟨f, h1, h2, Nat.zero_le _, fun i hi => absurd hi (Nat.not_lt_zero _)⟩
theorem xOw.nil {D : va_G} {X : xH} {F V : Nat → Nat} {I : Nat → Option Imm} {i : Nat} {m o : Mc} {bs cs be ce br rc : Nat} {ts res : List Int32} {n lp : Int32} {as1 as2 : List Nat} (h : xOw D X F V I i m o bs cs be ce br rc ts res n lp as1 as2) : xOw D X F V I i m o bs cs be ce br rc [] res n lp as1 as2 := ⟨h.1, h.2.1.nil, h.2.2⟩
def mIx (z : Int32) : Nat := z.toNatClampNeg
theorem mIx_nI {i : Nat} (h : i < 2 ^ 31) : mIx (nI i) = i := nI_clamp h
theorem isM_of {i : Nat} (h : i < 2) : nI i = 0 ∨ nI i = 1 := by
  match i, h with
  | 0, _ => exact Or.inl rfl
  | 1, _ => exact Or.inr rfl
theorem notM {z : Int32} (h : z < 0 ∨ nI 2 ≤ z) : ¬ (z = 0 ∨ z = 1) := by
  intro q
  rcases q with q | q <;> subst q <;> revert h <;> decide
theorem mach_ix (z : Int32) : (z < 0 ∨ nI 2 ≤ z) ∨ ∃ i, i < 2 ∧ z = nI i := by
  rcases pk_ix z (n := 2) (by omega) with h | h | h
  · exact Or.inl (Or.inl h)
  · exact Or.inl (Or.inr h)
  · exact Or.inr h
set_option maxRecDepth 100000 in
set_option maxHeartbeats 4000000 in
theorem n_mach {l : Launch} {D : va_G} {H0 : Heap} {X : xH} {F : Nat → Nat} {i : Nat} {v2 v3 v4 v5 : Value} (htk : X (F 0) = some (.inr (0, [.ref (F 10), .ref (F 11), v2, v3, v4, v5]))) (hi : i < 2) : xMet l D H0 y_TK_machineOf b_TK_machineOf 2 (some (.object "TwinKeepers$Machine")) [] 0 0 0 [.ref (F 0), .int (nI i)] X (fun o X' => o = .inl (some (.ref (F (10 + i)))) ∧ X' = X) := by
  refine (c_TK_machineOf htk hi).mono (fun r X' hP => ⟨hP.1.trans ?_, hP.2⟩)
  match i, hi with
  | 0, _ => rfl
  | 1, _ => rfl
set_option maxRecDepth 100000 in
set_option maxHeartbeats 4000000 in
theorem c_TK_place {l : Launch} {D : va_G} {H0 : Heap} {X : xH} {F V : Nat → Nat} {I : Nat → Option Imm} {s : St} (hK : xTK D X F V I s) : xMet l D H0 y_TK_place b_TK_place 1 (some .int) [] 0 0 0 [.ref (F 0)] X (fun o X' => o = .inl (some (.int s.2.2.2)) ∧ X' = X) := by
  have htk := hK.1
  refine ⟨[some (.ref (F 0))], rfl, Nat.le_of_ble_eq_true rfl, fun E hD hH hl _ C => ?_⟩
  subst hD
  subst hH
  subst hl
  refine xr_aload_n C d_TK_place_0 1 rfl rfl ?_
  refine xr_get C K_TK 5 d_TK_place_1 4 rfl q_122 (Or.inl rfl) rfl (by first | assumption | exact xup_self | exact (xup_ne (by assumption)).trans (by assumption) | exact (xup_ne (Ne.symm (by assumption))).trans (by assumption) | exact (xup_ne (by assumption)).trans xup_self | exact (xup_ne (Ne.symm (by assumption))).trans xup_self) rfl ?_
  exact xr_iret C d_TK_place_4 (by omega) (by omega) ⟨rfl, rfl⟩
def fByteAt (s : St) (z : Int32) : Nat × Int32 := if 0 ≤ z ∧ z < nI s.2.2.1.length then (0, u8 (s.2.2.1.getD (mIx z) 0)) else (1, 0)
set_option maxRecDepth 100000 in
set_option maxHeartbeats 4000000 in
theorem c_TK_byteAt {l : Launch} {D : va_G} {H0 : Heap} {X : xH} {F V : Nat → Nat} {I : Nat → Option Imm} {s : St} (hK : xTK D X F V I s) {z : Int32} : xMet l D H0 y_TK_byteAt b_TK_byteAt 2 (some .int) [] 0 1 6 [.ref (F 0), .int z] X (fun o X' => xEnd "java/lang/IndexOutOfBoundsException" "" (fByteAt s z) o ∧ X' = X) := by
  have htk := hK.1
  obtain ⟨f, hr, hb, h1, h2, h3, h4, h5⟩ := hK.2.2.2.2.1
  refine ⟨[some (.ref (F 0)), some (.int z)], rfl, Nat.le_of_ble_eq_true rfl, fun E hD hH hl _ C => ?_⟩
  subst hD
  subst hH
  subst hl
  have t15 : ¬ (0 ≤ z ∧ z < nI s.2.2.1.length) → xG E X 0 0 15 [some (.ref (F 0)), some (.int z)] [] := by
    intro h
    have hf : fByteAt s z = (1, 0) := if_neg h
    rw [hf] at C
    exact xr_throw C rfl d_TK_byteAt_15 d_TK_byteAt_18 d_TK_byteAt_19 d_TK_byteAt_21 d_TK_byteAt_24 tw_IOB xs_204 (Nat.le_of_ble_eq_true rfl) (by omega) (by omega) ⟨xEnd_1, rfl⟩
  refine xr_iload_n C d_TK_byteAt_0 1 rfl rfl ?_
  refine xr_if_lt C d_TK_byteAt_1 4 15 rfl (by decide) (fun h => t15 (fun q => absurd q.1 (Int32.not_le.mpr h))) (fun h0 => ?_)
  refine xr_iload_n C d_TK_byteAt_4 5 rfl rfl ?_
  refine xr_aload_n C d_TK_byteAt_5 6 rfl rfl ?_
  refine xr_get C K_TK 3 d_TK_byteAt_6 9 rfl q_120 (Or.inl rfl) rfl (by first | assumption | exact xup_self | exact (xup_ne (by assumption)).trans (by assumption) | exact (xup_ne (Ne.symm (by assumption))).trans (by assumption) | exact (xup_ne (by assumption)).trans xup_self | exact (xup_ne (Ne.symm (by assumption))).trans xup_self) rfl ?_
  refine xr_get C K_Ro 1 d_TK_byteAt_9 12 rfl q_110 (Or.inl rfl) rfl (by first | assumption | exact xup_self | exact (xup_ne (by assumption)).trans (by assumption) | exact (xup_ne (Ne.symm (by assumption))).trans (by assumption) | exact (xup_ne (by assumption)).trans xup_self | exact (xup_ne (Ne.symm (by assumption))).trans xup_self) rfl ?_
  refine xr_icmp_lt C d_TK_byteAt_12 15 25 rfl (by decide) (fun h12 => ?_) (fun h => t15 (fun q => h q.2))
  obtain ⟨j, hj, rfl⟩ := nI_of h0
  have hj2 : j < s.2.2.1.length := (nI_ltI hj (by omega)).mp h12
  have hf : fByteAt s (nI j) = (0, u8 (s.2.2.1.getD j 0)) := by
    unfold fByteAt
    rw [if_pos ⟨nI_pos' hj, h12⟩, mIx_nI hj]
  rw [hf] at C
  refine xr_aload_n C d_TK_byteAt_25 26 rfl rfl ?_
  refine xr_get C K_TK 3 d_TK_byteAt_26 29 rfl q_120 (Or.inl rfl) rfl (by first | assumption | exact xup_self | exact (xup_ne (by assumption)).trans (by assumption) | exact (xup_ne (Ne.symm (by assumption))).trans (by assumption) | exact (xup_ne (by assumption)).trans xup_self | exact (xup_ne (Ne.symm (by assumption))).trans xup_self) rfl ?_
  refine xr_get C K_Ro 0 d_TK_byteAt_29 32 rfl q_108 (Or.inl rfl) rfl (by first | assumption | exact xup_self | exact (xup_ne (by assumption)).trans (by assumption) | exact (xup_ne (Ne.symm (by assumption))).trans (by assumption) | exact (xup_ne (by assumption)).trans xup_self | exact (xup_ne (Ne.symm (by assumption))).trans xup_self) rfl ?_
  refine xr_iload_n C d_TK_byteAt_32 33 rfl rfl ?_
  refine xr_bald C d_TK_byteAt_33 34 rfl hb rfl (by omega) (by omega) ?_
  refine xr_toi (h3 j hj2) ?_
  refine xr_sipush (v := 255) C d_TK_byteAt_34 37 rfl (by decide) ?_
  refine xr_iand C d_TK_byteAt_37 38 rfl ?_
  exact xr_iret C d_TK_byteAt_38 (by omega) (by omega) ⟨xEnd_ok, rfl⟩
def fState (s : St) (z w : Int32) : Nat × Int32 :=
  if z = 0 ∨ z = 1 then
    if w = 0 then (0, nI (s.2.1 (mIx z)).1.length) else if w = 1 then (0, nI (s.2.1 (mIx z)).2.1.length) else if w = 2 then (0, nI (uns (s.2.1 (mIx z)).2.1)) else if w = 3 then (0, nI (8 + rbS (s.2.1 (mIx z)).1 + rbE (s.2.1 (mIx z)).2.1)) else if w = 4 then (0, (s.2.1 (mIx z)).2.2) else (1, 0)
  else (1, 0)
set_option maxRecDepth 100000 in
set_option maxHeartbeats 4000000 in
theorem c_TK_state {l : Launch} {D : va_G} {H0 : Heap} {X : xH} {F V : Nat → Nat} {I : Nat → Option Imm} {s : St} (hK : xTK D X F V I s) {z w : Int32} : xMet l D H0 y_TK_state b_TK_state 4 (some .int) [] 4 1 6 [.ref (F 0), .int z, .int w] X (fun o X' => xEnd "java/lang/IndexOutOfBoundsException" "" (fState s z w) o ∧ X' = X) := by
  have htk := hK.1
  refine ⟨[some (.ref (F 0)), some (.int z), some (.int w), none], rfl, Nat.le_of_ble_eq_true rfl, fun E hD hH hl _ C => ?_⟩
  subst hD
  subst hH
  subst hl
  refine xr_aload_n C d_TK_state_0 1 rfl rfl ?_
  refine xr_iload_n C d_TK_state_1 2 rfl rfl ?_
  rcases mach_ix z with hz | ⟨i, hi, rfl⟩
  · have hf : fState s z w = (1, 0) := if_neg (notM hz)
    rw [hf] at C
    refine xr_callV C (c_TK_machineOfX hz) k_TK_machineOf d_TK_state_2 5 rfl htk rfl (Or.inl q_240) v_TK_machineOf e_TK_machineOf h_TK_machineOf rfl ⟨Nat.le_of_ble_eq_true rfl, Nat.le_of_ble_eq_true rfl, Nat.le_of_ble_eq_true rfl⟩ (by omega) (by omega) (fun _ _ h => absurd h.1 (by simp)) (fun Cn X9 hP => ?_)
    obtain ⟨h1, rfl⟩ := hP
    cases h1
    exact xTh_out C (by omega) (by omega) ⟨xEnd_1, rfl⟩
  · obtain ⟨as1, as2, hO⟩ := hK.ow hi
    obtain ⟨-, o2, o3, o4, o5, o6, o7, o8, o9, o10, o11⟩ := id hO
    obtain ⟨a1, a2, a3, a4, a5, a6, a7⟩ := id o9
    obtain ⟨avl, a8⟩ := a2.ob
    obtain ⟨a9, a10, a11, a12⟩ := id a5
    obtain ⟨avk, a13⟩ := a10.ob
    have hl1 := a3.1
    have hl2 := a11.1
    have hl3 := a4.1
    have hl4 := a12.1
    have hfm : fState s (nI i) w = if w = 0 then (0, nI (s.2.1 i).1.length) else if w = 1 then (0, nI (s.2.1 i).2.1.length) else if w = 2 then (0, nI (uns (s.2.1 i).2.1)) else if w = 3 then (0, nI (8 + rbS (s.2.1 i).1 + rbE (s.2.1 i).2.1)) else if w = 4 then (0, (s.2.1 i).2.2) else (1, 0) := by
      unfold fState
      rw [if_pos (isM_of hi), mIx_nI (by omega)]
    refine xr_callV C (n_mach htk hi) k_TK_machineOf d_TK_state_2 5 rfl htk rfl (Or.inl q_240) v_TK_machineOf e_TK_machineOf h_TK_machineOf rfl ⟨Nat.le_of_ble_eq_true rfl, Nat.le_of_ble_eq_true rfl, Nat.le_of_ble_eq_true rfl⟩ (by omega) (by omega) (fun v9 X hP => ?_) (fun _ _ h => absurd h.1 (by simp))
    obtain ⟨h1, rfl⟩ := hP
    cases h1
    refine xr_astore_n C d_TK_state_5 6 rfl rfl rfl ?_
    refine xr_iload_n C d_TK_state_6 7 rfl rfl ?_
    rcases pk_ix w (n := 5) (by omega) with hw0 | hw0 | ⟨j, hj, rfl⟩
    · have hw : w.toInt < 0 ∨ 4 < w.toInt := Or.inl (by have := Int32.lt_iff_toInt_lt.mp hw0; exact this)
      have hne : ∀ k : Nat, k < 5 → w ≠ nI k := by
        intro k hk e
        rw [e, nI_int (by omega)] at hw
        omega
      rw [hfm, if_neg (show ¬ w = 0 from hne 0 (by omega)), if_neg (show ¬ w = 1 from hne 1 (by omega)), if_neg (show ¬ w = 2 from hne 2 (by omega)), if_neg (show ¬ w = 3 from hne 3 (by omega)), if_neg (show ¬ w = 4 from hne 4 (by omega))] at C
      refine xr_tableOut C d_TK_state_7 77 hw (by decide) ?_
      exact xr_throw C rfl d_TK_state_77 d_TK_state_80 d_TK_state_81 d_TK_state_83 d_TK_state_86 tw_IOB xs_202 (Nat.le_of_ble_eq_true rfl) (by omega) (by omega) ⟨xEnd_1, rfl⟩
    · have hw : w.toInt < 0 ∨ 4 < w.toInt := Or.inr (by have := Int32.le_iff_toInt_le.mp hw0; exact Int.lt_of_lt_of_le (by decide) this)
      have hne : ∀ k : Nat, k < 5 → w ≠ nI k := by
        intro k hk e
        rw [e, nI_int (by omega)] at hw
        omega
      rw [hfm, if_neg (show ¬ w = 0 from hne 0 (by omega)), if_neg (show ¬ w = 1 from hne 1 (by omega)), if_neg (show ¬ w = 2 from hne 2 (by omega)), if_neg (show ¬ w = 3 from hne 3 (by omega)), if_neg (show ¬ w = 4 from hne 4 (by omega))] at C
      refine xr_tableOut C d_TK_state_7 77 hw (by decide) ?_
      exact xr_throw C rfl d_TK_state_77 d_TK_state_80 d_TK_state_81 d_TK_state_83 d_TK_state_86 tw_IOB xs_202 (Nat.le_of_ble_eq_true rfl) (by omega) (by omega) ⟨xEnd_1, rfl⟩
    · have hj5 : j = 0 ∨ j = 1 ∨ j = 2 ∨ j = 3 ∨ j = 4 := by omega
      rcases hj5 with e | e | e | e | e
      · subst e
        rw [hfm, if_pos (show nI 0 = 0 from rfl)] at C
        refine xr_tableIn C d_TK_state_7 40 (by decide) (by decide) (show _ = some (33 : Int) from rfl) (by decide) ?_
        refine xr_aload_n C d_TK_state_40 41 rfl rfl ?_
        refine xr_get C K_Ma 0 d_TK_state_41 44 rfl q_89 (Or.inl rfl) rfl (by first | assumption | exact xup_self | exact (xup_ne (by assumption)).trans (by assumption) | exact (xup_ne (Ne.symm (by assumption))).trans (by assumption) | exact (xup_ne (by assumption)).trans xup_self | exact (xup_ne (Ne.symm (by assumption))).trans xup_self) rfl ?_
        refine xr_callV C (l_size a2) k_AL_size d_TK_state_44 47 rfl (by first | assumption | exact xup_self | exact (xup_ne (by assumption)).trans (by assumption) | exact (xup_ne (Ne.symm (by assumption))).trans (by assumption) | exact (xup_ne (by assumption)).trans xup_self | exact (xup_ne (Ne.symm (by assumption))).trans xup_self) rfl (Or.inl q_392) v_AL_size e_AL_size h_AL_size rfl ⟨Nat.le_of_ble_eq_true rfl, Nat.le_of_ble_eq_true rfl, Nat.le_of_ble_eq_true rfl⟩ (by omega) (by omega) (fun v9 X hP => ?_) (fun _ _ h => absurd h.1 (by simp))
        obtain ⟨h1, rfl⟩ := hP
        cases h1
        refine xr_toi (show _ = nI (s.2.1 i).1.length by rw [hl1]) ?_
        exact xr_iret C d_TK_state_47 (by omega) (by omega) ⟨xEnd_ok, rfl⟩
      · subst e
        rw [hfm, if_neg (show ¬ nI 1 = 0 by decide), if_pos (show nI 1 = 1 from rfl)] at C
        refine xr_tableIn C d_TK_state_7 48 (by decide) (by decide) (show _ = some (41 : Int) from rfl) (by decide) ?_
        refine xr_aload_n C d_TK_state_48 49 rfl rfl ?_
        refine xr_get C K_Ma 1 d_TK_state_49 52 rfl q_91 (Or.inl rfl) rfl (by first | assumption | exact xup_self | exact (xup_ne (by assumption)).trans (by assumption) | exact (xup_ne (Ne.symm (by assumption))).trans (by assumption) | exact (xup_ne (by assumption)).trans xup_self | exact (xup_ne (Ne.symm (by assumption))).trans xup_self) rfl ?_
        refine xr_get C K_KM 0 d_TK_state_52 55 rfl q_79 (Or.inl rfl) rfl (by first | assumption | exact xup_self | exact (xup_ne (by assumption)).trans (by assumption) | exact (xup_ne (Ne.symm (by assumption))).trans (by assumption) | exact (xup_ne (by assumption)).trans xup_self | exact (xup_ne (Ne.symm (by assumption))).trans xup_self) rfl ?_
        refine xr_callV C (l_size a10) k_AL_size d_TK_state_55 58 rfl (by first | assumption | exact xup_self | exact (xup_ne (by assumption)).trans (by assumption) | exact (xup_ne (Ne.symm (by assumption))).trans (by assumption) | exact (xup_ne (by assumption)).trans xup_self | exact (xup_ne (Ne.symm (by assumption))).trans xup_self) rfl (Or.inl q_392) v_AL_size e_AL_size h_AL_size rfl ⟨Nat.le_of_ble_eq_true rfl, Nat.le_of_ble_eq_true rfl, Nat.le_of_ble_eq_true rfl⟩ (by omega) (by omega) (fun v9 X hP => ?_) (fun _ _ h => absurd h.1 (by simp))
        obtain ⟨h1, rfl⟩ := hP
        cases h1
        refine xr_toi (show _ = nI (s.2.1 i).2.1.length by rw [hl2]) ?_
        exact xr_iret C d_TK_state_58 (by omega) (by omega) ⟨xEnd_ok, rfl⟩
      · subst e
        rw [hfm, if_neg (show ¬ nI 2 = 0 by decide), if_neg (show ¬ nI 2 = 1 by decide), if_pos (show nI 2 = 2 from rfl)] at C
        refine xr_tableIn C d_TK_state_7 59 (by decide) (by decide) (show _ = some (52 : Int) from rfl) (by decide) ?_
        refine xr_aload_n C d_TK_state_59 60 rfl rfl ?_
        refine xr_get C K_Ma 1 d_TK_state_60 63 rfl q_91 (Or.inl rfl) rfl (by first | assumption | exact xup_self | exact (xup_ne (by assumption)).trans (by assumption) | exact (xup_ne (Ne.symm (by assumption))).trans (by assumption) | exact (xup_ne (by assumption)).trans xup_self | exact (xup_ne (Ne.symm (by assumption))).trans xup_self) rfl ?_
        refine xr_get C K_KM 1 d_TK_state_63 66 rfl q_82 (Or.inl rfl) rfl (by first | assumption | exact xup_self | exact (xup_ne (by assumption)).trans (by assumption) | exact (xup_ne (Ne.symm (by assumption))).trans (by assumption) | exact (xup_ne (by assumption)).trans xup_self | exact (xup_ne (Ne.symm (by assumption))).trans xup_self) rfl ?_
        exact xr_iret C d_TK_state_66 (by omega) (by omega) ⟨xEnd_ok, rfl⟩
      · subst e
        rw [hfm, if_neg (show ¬ nI 3 = 0 by decide), if_neg (show ¬ nI 3 = 1 by decide), if_neg (show ¬ nI 3 = 2 by decide), if_pos (show nI 3 = 3 from rfl)] at C
        refine xr_tableIn C d_TK_state_7 67 (by decide) (by decide) (show _ = some (60 : Int) from rfl) (by decide) ?_
        refine xr_aload_n C d_TK_state_67 68 rfl rfl ?_
        refine xr_callV C (c_Ma_rowBytes o7 o9) k_Ma_rowBytes d_TK_state_68 71 rfl (by first | assumption | exact xup_self | exact (xup_ne (by assumption)).trans (by assumption) | exact (xup_ne (Ne.symm (by assumption))).trans (by assumption) | exact (xup_ne (by assumption)).trans xup_self | exact (xup_ne (Ne.symm (by assumption))).trans xup_self) rfl (Or.inl q_913) v_Ma_rowBytes e_Ma_rowBytes h_Ma_rowBytes rfl ⟨Nat.le_of_ble_eq_true rfl, Nat.le_of_ble_eq_true rfl, Nat.le_of_ble_eq_true rfl⟩ (by omega) (by omega) (fun v9 X hP => ?_) (fun _ _ h => absurd h.1 (by simp))
        obtain ⟨h1, rfl⟩ := hP
        cases h1
        exact xr_iret C d_TK_state_71 (by omega) (by omega) ⟨xEnd_ok, rfl⟩
      · subst e
        rw [hfm, if_neg (show ¬ nI 4 = 0 by decide), if_neg (show ¬ nI 4 = 1 by decide), if_neg (show ¬ nI 4 = 2 by decide), if_neg (show ¬ nI 4 = 3 by decide), if_pos (show nI 4 = 4 from rfl)] at C
        refine xr_tableIn C d_TK_state_7 72 (by decide) (by decide) (show _ = some (65 : Int) from rfl) (by decide) ?_
        refine xr_aload_n C d_TK_state_72 73 rfl rfl ?_
        refine xr_get C K_Ma 2 d_TK_state_73 76 rfl q_93 (Or.inl rfl) rfl (by first | assumption | exact xup_self | exact (xup_ne (by assumption)).trans (by assumption) | exact (xup_ne (Ne.symm (by assumption))).trans (by assumption) | exact (xup_ne (by assumption)).trans xup_self | exact (xup_ne (Ne.symm (by assumption))).trans xup_self) rfl ?_
        exact xr_iret C d_TK_state_76 (by omega) (by omega) ⟨xEnd_ok, rfl⟩
def fSession (s : St) (z k w : Int32) : Nat × Int32 :=
  if z = 0 ∨ z = 1 then
    if 0 ≤ k ∧ k < nI (s.2.1 (mIx z)).1.length then
      if w = 0 then (0, (sD (s.2.1 (mIx z)).1 (mIx k)).1) else if w = 1 then (0, (sD (s.2.1 (mIx z)).1 (mIx k)).2.1) else if w = 2 then (0, (sD (s.2.1 (mIx z)).1 (mIx k)).2.2.1) else if w = 3 then (0, (sD (s.2.1 (mIx z)).1 (mIx k)).2.2.2.1) else if w = 4 then (0, nI (sD (s.2.1 (mIx z)).1 (mIx k)).2.2.2.2.length) else (1, 0)
    else (1, 0)
  else (1, 0)
set_option maxRecDepth 100000 in
set_option maxHeartbeats 4000000 in
theorem c_TK_session {l : Launch} {D : va_G} {H0 : Heap} {X : xH} {F V : Nat → Nat} {I : Nat → Option Imm} {s : St} (hK : xTK D X F V I s) {z k w : Int32} : xMet l D H0 y_TK_session b_TK_session 6 (some .int) [] 3 1 6 [.ref (F 0), .int z, .int k, .int w] X (fun o X' => xEnd "java/lang/IndexOutOfBoundsException" "" (fSession s z k w) o ∧ X' = X) := by
  have htk := hK.1
  refine ⟨[some (.ref (F 0)), some (.int z), some (.int k), some (.int w), none, none], rfl, Nat.le_of_ble_eq_true rfl, fun E hD hH hl _ C => ?_⟩
  subst hD
  subst hH
  subst hl
  refine xr_aload_n C d_TK_session_0 1 rfl rfl ?_
  refine xr_iload_n C d_TK_session_1 2 rfl rfl ?_
  rcases mach_ix z with hz | ⟨i, hi, rfl⟩
  · have hf : fSession s z k w = (1, 0) := if_neg (notM hz)
    rw [hf] at C
    refine xr_callV C (c_TK_machineOfX hz) k_TK_machineOf d_TK_session_2 5 rfl htk rfl (Or.inl q_240) v_TK_machineOf e_TK_machineOf h_TK_machineOf rfl ⟨Nat.le_of_ble_eq_true rfl, Nat.le_of_ble_eq_true rfl, Nat.le_of_ble_eq_true rfl⟩ (by omega) (by omega) (fun _ _ h => absurd h.1 (by simp)) (fun Cn X9 hP => ?_)
    obtain ⟨h1, rfl⟩ := hP
    cases h1
    exact xTh_out C (by omega) (by omega) ⟨xEnd_1, rfl⟩
  · obtain ⟨as1, as2, hO⟩ := hK.ow hi
    obtain ⟨-, o2, o3, o4, o5, o6, o7, o8, o9, o10, o11⟩ := id hO
    obtain ⟨a1, a2, a3, a4, a5, a6, a7⟩ := id o9
    obtain ⟨avl, a8⟩ := a2.ob
    obtain ⟨a9, a10, a11, a12⟩ := id a5
    obtain ⟨avk, a13⟩ := a10.ob
    have hl1 := a3.1
    have hl2 := a11.1
    have hl3 := a4.1
    have hl4 := a12.1
    have hfm : fSession s (nI i) k w = if 0 ≤ k ∧ k < nI (s.2.1 i).1.length then
      if w = 0 then (0, (sD (s.2.1 i).1 (mIx k)).1) else if w = 1 then (0, (sD (s.2.1 i).1 (mIx k)).2.1) else if w = 2 then (0, (sD (s.2.1 i).1 (mIx k)).2.2.1) else if w = 3 then (0, (sD (s.2.1 i).1 (mIx k)).2.2.2.1) else if w = 4 then (0, nI (sD (s.2.1 i).1 (mIx k)).2.2.2.2.length) else (1, 0)
    else (1, 0) := by
      unfold fSession
      rw [if_pos (isM_of hi), mIx_nI (by omega)]
    have t23 : ¬ (0 ≤ k ∧ k < nI (s.2.1 i).1.length) → ∀ a, xG E X 0 0 23 [some (.ref (F 0)), some (.int (nI i)), some (.int k), some (.int w), some (.ref (F (10 + i))), a] [] := by
      intro h a
      rw [hfm, if_neg h] at C
      exact xr_throw C rfl d_TK_session_23 d_TK_session_26 d_TK_session_27 d_TK_session_29 d_TK_session_32 tw_IOB xs_173 (Nat.le_of_ble_eq_true rfl) (by omega) (by omega) ⟨xEnd_1, rfl⟩
    refine xr_callV C (n_mach htk hi) k_TK_machineOf d_TK_session_2 5 rfl htk rfl (Or.inl q_240) v_TK_machineOf e_TK_machineOf h_TK_machineOf rfl ⟨Nat.le_of_ble_eq_true rfl, Nat.le_of_ble_eq_true rfl, Nat.le_of_ble_eq_true rfl⟩ (by omega) (by omega) (fun v9 X hP => ?_) (fun _ _ h => absurd h.1 (by simp))
    obtain ⟨h1, rfl⟩ := hP
    cases h1
    refine xr_astore C d_TK_session_5 7 rfl rfl rfl ?_
    refine xr_iload_n C d_TK_session_7 8 rfl rfl ?_
    refine xr_if_lt C d_TK_session_8 11 23 rfl (by decide) (fun h => t23 (fun q => absurd q.1 (Int32.not_le.mpr h)) _) (fun h0 => ?_)
    refine xr_iload_n C d_TK_session_11 12 rfl rfl ?_
    refine xr_aload C d_TK_session_12 14 rfl rfl ?_
    refine xr_get C K_Ma 0 d_TK_session_14 17 rfl q_89 (Or.inl rfl) rfl (by first | assumption | exact xup_self | exact (xup_ne (by assumption)).trans (by assumption) | exact (xup_ne (Ne.symm (by assumption))).trans (by assumption) | exact (xup_ne (by assumption)).trans xup_self | exact (xup_ne (Ne.symm (by assumption))).trans xup_self) rfl ?_
    refine xr_callV C (l_size a2) k_AL_size d_TK_session_17 20 rfl (by first | assumption | exact xup_self | exact (xup_ne (by assumption)).trans (by assumption) | exact (xup_ne (Ne.symm (by assumption))).trans (by assumption) | exact (xup_ne (by assumption)).trans xup_self | exact (xup_ne (Ne.symm (by assumption))).trans xup_self) rfl (Or.inl q_392) v_AL_size e_AL_size h_AL_size rfl ⟨Nat.le_of_ble_eq_true rfl, Nat.le_of_ble_eq_true rfl, Nat.le_of_ble_eq_true rfl⟩ (by omega) (by omega) (fun v9 X hP => ?_) (fun _ _ h => absurd h.1 (by simp))
    obtain ⟨h1, rfl⟩ := hP
    cases h1
    refine xr_icmp_lt C d_TK_session_20 23 33 rfl (by decide) (fun h20 => ?_) (fun h => t23 (fun q => h (by rw [hl1]; exact q.2)) _)
    obtain ⟨q, hq, rfl⟩ := nI_of h0
    have hq2 : q < as1.length := (nI_ltI hq (by omega)).mp h20
    obtain ⟨qa, k1, k2, k3⟩ := (a3.2 q hq2).use o7
    obtain ⟨fq, k4⟩ := k2.ar
    rw [if_pos ⟨nI_pos' hq, by rw [← hl1]; exact h20⟩, mIx_nI hq] at hfm
    refine xr_aload C d_TK_session_33 35 rfl rfl ?_
    refine xr_get C K_Ma 0 d_TK_session_35 38 rfl q_89 (Or.inl rfl) rfl (by first | assumption | exact xup_self | exact (xup_ne (by assumption)).trans (by assumption) | exact (xup_ne (Ne.symm (by assumption))).trans (by assumption) | exact (xup_ne (by assumption)).trans xup_self | exact (xup_ne (Ne.symm (by assumption))).trans xup_self) rfl ?_
    refine xr_iload_n C d_TK_session_38 39 rfl rfl ?_
    refine xr_callV C (l_get a2 hq2) k_AL_get d_TK_session_39 42 rfl (by first | assumption | exact xup_self | exact (xup_ne (by assumption)).trans (by assumption) | exact (xup_ne (Ne.symm (by assumption))).trans (by assumption) | exact (xup_ne (by assumption)).trans xup_self | exact (xup_ne (Ne.symm (by assumption))).trans xup_self) rfl (Or.inl q_431) v_AL_get e_AL_get h_AL_get rfl ⟨Nat.le_of_ble_eq_true rfl, Nat.le_of_ble_eq_true rfl, Nat.le_of_ble_eq_true rfl⟩ (by omega) (by omega) (fun v9 X hP => ?_) (fun _ _ h => absurd h.1 (by simp))
    obtain ⟨h1, rfl⟩ := hP
    cases h1
    refine xr_cast C d_TK_session_42 45 rfl k1 rfl q_432 ?_
    refine xr_astore C d_TK_session_45 47 rfl rfl rfl ?_
    refine xr_iload_n C d_TK_session_47 48 rfl rfl ?_
    rcases pk_ix w (n := 5) (by omega) with hw0 | hw0 | ⟨j, hj, rfl⟩
    · have hw : w.toInt < 0 ∨ 4 < w.toInt := Or.inl (by have := Int32.lt_iff_toInt_lt.mp hw0; exact this)
      have hne : ∀ k : Nat, k < 5 → w ≠ nI k := by
        intro k hk e
        rw [e, nI_int (by omega)] at hw
        omega
      rw [hfm, if_neg (show ¬ w = 0 from hne 0 (by omega)), if_neg (show ¬ w = 1 from hne 1 (by omega)), if_neg (show ¬ w = 2 from hne 2 (by omega)), if_neg (show ¬ w = 3 from hne 3 (by omega)), if_neg (show ¬ w = 4 from hne 4 (by omega))] at C
      refine xr_tableOut C d_TK_session_48 115 hw (by decide) ?_
      exact xr_throw C rfl d_TK_session_115 d_TK_session_118 d_TK_session_119 d_TK_session_121 d_TK_session_124 tw_IOB xs_182 (Nat.le_of_ble_eq_true rfl) (by omega) (by omega) ⟨xEnd_1, rfl⟩
    · have hw : w.toInt < 0 ∨ 4 < w.toInt := Or.inr (by have := Int32.le_iff_toInt_le.mp hw0; exact Int.lt_of_lt_of_le (by decide) this)
      have hne : ∀ k : Nat, k < 5 → w ≠ nI k := by
        intro k hk e
        rw [e, nI_int (by omega)] at hw
        omega
      rw [hfm, if_neg (show ¬ w = 0 from hne 0 (by omega)), if_neg (show ¬ w = 1 from hne 1 (by omega)), if_neg (show ¬ w = 2 from hne 2 (by omega)), if_neg (show ¬ w = 3 from hne 3 (by omega)), if_neg (show ¬ w = 4 from hne 4 (by omega))] at C
      refine xr_tableOut C d_TK_session_48 115 hw (by decide) ?_
      exact xr_throw C rfl d_TK_session_115 d_TK_session_118 d_TK_session_119 d_TK_session_121 d_TK_session_124 tw_IOB xs_182 (Nat.le_of_ble_eq_true rfl) (by omega) (by omega) ⟨xEnd_1, rfl⟩
    · have hj5 : j = 0 ∨ j = 1 ∨ j = 2 ∨ j = 3 ∨ j = 4 := by omega
      rcases hj5 with e | e | e | e | e
      · subst e
        rw [hfm, if_pos (show nI 0 = 0 from rfl)] at C
        refine xr_tableIn C d_TK_session_48 84 (by decide) (by decide) (show _ = some (36 : Int) from rfl) (by decide) ?_
        refine xr_aload C d_TK_session_84 86 rfl rfl ?_
        refine xr_get C K_Se 0 d_TK_session_86 89 rfl q_313 (Or.inl rfl) rfl (by first | assumption | exact xup_self | exact (xup_ne (by assumption)).trans (by assumption) | exact (xup_ne (Ne.symm (by assumption))).trans (by assumption) | exact (xup_ne (by assumption)).trans xup_self | exact (xup_ne (Ne.symm (by assumption))).trans xup_self) rfl ?_
        exact xr_iret C d_TK_session_89 (by omega) (by omega) ⟨xEnd_ok, rfl⟩
      · subst e
        rw [hfm, if_neg (show ¬ nI 1 = 0 by decide), if_pos (show nI 1 = 1 from rfl)] at C
        refine xr_tableIn C d_TK_session_48 90 (by decide) (by decide) (show _ = some (42 : Int) from rfl) (by decide) ?_
        refine xr_aload C d_TK_session_90 92 rfl rfl ?_
        refine xr_get C K_Se 1 d_TK_session_92 95 rfl q_316 (Or.inl rfl) rfl (by first | assumption | exact xup_self | exact (xup_ne (by assumption)).trans (by assumption) | exact (xup_ne (Ne.symm (by assumption))).trans (by assumption) | exact (xup_ne (by assumption)).trans xup_self | exact (xup_ne (Ne.symm (by assumption))).trans xup_self) rfl ?_
        exact xr_iret C d_TK_session_95 (by omega) (by omega) ⟨xEnd_ok, rfl⟩
      · subst e
        rw [hfm, if_neg (show ¬ nI 2 = 0 by decide), if_neg (show ¬ nI 2 = 1 by decide), if_pos (show nI 2 = 2 from rfl)] at C
        refine xr_tableIn C d_TK_session_48 96 (by decide) (by decide) (show _ = some (48 : Int) from rfl) (by decide) ?_
        refine xr_aload C d_TK_session_96 98 rfl rfl ?_
        refine xr_get C K_Se 2 d_TK_session_98 101 rfl q_318 (Or.inl rfl) rfl (by first | assumption | exact xup_self | exact (xup_ne (by assumption)).trans (by assumption) | exact (xup_ne (Ne.symm (by assumption))).trans (by assumption) | exact (xup_ne (by assumption)).trans xup_self | exact (xup_ne (Ne.symm (by assumption))).trans xup_self) rfl ?_
        exact xr_iret C d_TK_session_101 (by omega) (by omega) ⟨xEnd_ok, rfl⟩
      · subst e
        rw [hfm, if_neg (show ¬ nI 3 = 0 by decide), if_neg (show ¬ nI 3 = 1 by decide), if_neg (show ¬ nI 3 = 2 by decide), if_pos (show nI 3 = 3 from rfl)] at C
        refine xr_tableIn C d_TK_session_48 102 (by decide) (by decide) (show _ = some (54 : Int) from rfl) (by decide) ?_
        refine xr_aload C d_TK_session_102 104 rfl rfl ?_
        refine xr_get C K_Se 3 d_TK_session_104 107 rfl q_320 (Or.inl rfl) rfl (by first | assumption | exact xup_self | exact (xup_ne (by assumption)).trans (by assumption) | exact (xup_ne (Ne.symm (by assumption))).trans (by assumption) | exact (xup_ne (by assumption)).trans xup_self | exact (xup_ne (Ne.symm (by assumption))).trans xup_self) rfl ?_
        exact xr_iret C d_TK_session_107 (by omega) (by omega) ⟨xEnd_ok, rfl⟩
      · subst e
        rw [hfm, if_neg (show ¬ nI 4 = 0 by decide), if_neg (show ¬ nI 4 = 1 by decide), if_neg (show ¬ nI 4 = 2 by decide), if_neg (show ¬ nI 4 = 3 by decide), if_pos (show nI 4 = 4 from rfl)] at C
        refine xr_tableIn C d_TK_session_48 108 (by decide) (by decide) (show _ = some (60 : Int) from rfl) (by decide) ?_
        refine xr_aload C d_TK_session_108 110 rfl rfl ?_
        refine xr_get C K_Se 4 d_TK_session_110 113 rfl q_322 (Or.inl rfl) rfl (by first | assumption | exact xup_self | exact (xup_ne (by assumption)).trans (by assumption) | exact (xup_ne (Ne.symm (by assumption))).trans (by assumption) | exact (xup_ne (by assumption)).trans xup_self | exact (xup_ne (Ne.symm (by assumption))).trans xup_self) rfl ?_
        refine xr_alen (t0 := 0) C rfl d_TK_session_113 114 rfl k4 ?_
        exact xr_iret C d_TK_session_114 (by omega) (by omega) ⟨xEnd_ok, rfl⟩
