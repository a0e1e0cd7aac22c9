/-! The law's helpers: a call of the class, its answer into out. -/
def pC (V : Nat → Nat) : Nat := V 1 + V 20 + V 21 + V 40 + V 41
def pS (V : Nat → Nat) : Nat := 2 * V 1 + 200 * (V 20 + V 21 + V 40 + V 41)
/-- what a call takes, and what is left of it as room -/
def pG (V V' : Nat → Nat) (mc ms : Nat) : Prop := pC V + mc ≤ pC V' + 12 ∧ pS V + ms ≤ pS V' + 2000
theorem vLe.gr {V V' : Nat → Nat} {mc ms : Nat} (h : vLe V V') (h1 : mc ≤ 12) (h2 : ms ≤ 2000) : pG V V' mc ms := by
  obtain ⟨a, b, c, d, e⟩ := h
  unfold pG pC pS
  omega
theorem vLd.gr {V V' : Nat → Nat} {d : Nat} (h : vLd V V' d) (h1 : V 1 ≤ d) : pG V V' (d - V 1 + 1) (2 * (d - V 1) + 6) := by
  obtain ⟨a, b, c, e, f⟩ := h
  unfold pG pC pS
  omega
theorem vMk.gr {V V' : Nat → Nat} {j d1 d2 : Nat} (h : vMk V V' j d1 d2) (h1 : j < 2 ∧ V (20 + j) ≤ d1 ∧ V (40 + j) ≤ d2 ∨ d1 = V (20 + j) ∧ d2 = V (40 + j)) : pG V V' ((d1 - V (20 + j)) + (d2 - V (40 + j)) + 1) (200 * ((d1 - V (20 + j)) + (d2 - V (40 + j))) + 6) := by
  obtain ⟨a, b⟩ := h
  have b20 := b 20 (by omega)
  have b21 := b 21 (by omega)
  have b40 := b 40 (by omega)
  have b41 := b 41 (by omega)
  unfold pG pC pS
  rcases h1 with ⟨hj, g1, g2⟩ | ⟨g1, g2⟩
  · have h01 : j = 0 ∨ j = 1 := by omega
    rcases h01 with e | e
    · subst e
      rw [if_pos rfl] at b20
      rw [if_neg (by omega), if_neg (by omega)] at b21
      rw [if_neg (by omega), if_pos rfl] at b40
      rw [if_neg (by omega), if_neg (by omega)] at b41
      rw [show 20 + 0 = 20 from rfl] at g1
      rw [show 40 + 0 = 40 from rfl] at g2
      rw [show 20 + 0 = 20 from rfl, show 40 + 0 = 40 from rfl]
      omega
    · subst e
      rw [if_neg (by omega), if_neg (by omega)] at b20
      rw [if_pos rfl] at b21
      rw [if_neg (by omega), if_neg (by omega)] at b40
      rw [if_neg (by omega), if_pos rfl] at b41
      rw [show 20 + 1 = 21 from rfl] at g1
      rw [show 40 + 1 = 41 from rfl] at g2
      rw [show 20 + 1 = 21 from rfl, show 40 + 1 = 41 from rfl]
      omega
  · have e : ∀ k, k = 20 ∨ k = 21 ∨ k = 40 ∨ k = 41 → V' k = V k := by
      intro k hk
      rw [b k hk, g1, g2]
      split
      · next h => rw [h]
      · split
        · next h => rw [h]
        · rfl
    rw [e 20 (by omega), e 21 (by omega), e 40 (by omega), e 41 (by omega), a, g1, g2]
    omega
theorem fByteAt_n2 {S : St} {z : Int32} : ¬ (fByteAt S z).1 = 2 := by
  unfold fByteAt
  (repeat' split) <;> (intro h; simp at h)
theorem fState_n2 {S : St} {z w : Int32} : ¬ (fState S z w).1 = 2 := by
  unfold fState
  (repeat' split) <;> (intro h; simp at h)
theorem fSession_n2 {S : St} {z k w : Int32} : ¬ (fSession S z k w).1 = 2 := by
  unfold fSession
  (repeat' split) <;> (intro h; simp at h)
theorem fKey_n2 {S : St} {z k w : Int32} : ¬ (fKey S z k w).1 = 2 := by
  unfold fKey
  (repeat' split) <;> (intro h; simp at h)
theorem fClear_n2 {S : St} {z : Int32} : ¬ (fClear S z).1 = 2 := by
  unfold fClear
  (repeat' split) <;> (intro h; simp at h)
theorem fRow_n2 {S : St} {z : Int32} : ¬ (fRow S z).1 = 2 := by
  unfold fRow
  (repeat' split) <;> (intro h; simp at h)
theorem fMake_n2 {S : St} {z1 z2 : Int32} : ¬ (fMake S z1 z2).1 = 2 := by
  unfold fMake
  (repeat' split) <;> (intro h; simp at h)
theorem fMake_b {S : St} {z1 z2 : Int32} (h : (fMake S z1 z2).1 = 0) : (fMake S z1 z2).2.1 = 0 ∨ (fMake S z1 z2).2.1 = 1 := by
  unfold fMake at h ⊢
  split
  · show (if _ then (0 : Int32) else 1) = 0 ∨ (if _ then (0 : Int32) else 1) = 1
    split
    · exact Or.inl rfl
    · exact Or.inr rfl
  · next hn =>
    rw [if_neg hn] at h
    simp at h
theorem q_143 : Cond.classLink "TwinKeepersLaw" 13 "java/lang/IllegalArgumentException" ∈ xT := xin 143 (by decide +kernel) (by decide +kernel)
theorem q_151 : Cond.castable "java/lang/IllegalArgumentException" "java/lang/IllegalArgumentException" ∈ xT := xin 151 (by decide +kernel) (by decide +kernel)
theorem q_144 : Cond.classLink "TwinKeepersLaw" 15 "java/lang/IllegalStateException" ∈ xT := xin 144 (by decide +kernel) (by decide +kernel)
theorem q_218 : Cond.castable "java/lang/IllegalStateException" "java/lang/IllegalStateException" ∈ xT := xin 218 (by decide +kernel) (by decide +kernel)
set_option maxRecDepth 100000 in
set_option maxHeartbeats 4000000 in
theorem c_La_feed {l : Launch} {D : va_G} {H0 : Heap} {X : xH} {F V : Nat → Nat} {I : Nat → Option Imm} {A : Nat → Nat} {s : MS} {out : Nat} {f : Nat → Int64} {S : St} (hC : xCo D X F V I A s out f S) {e : Int64} {n : Int32}  : xMet l D H0 y_La_feed b_La_feed 6 (some .int) [(0, 11, 14, 13), (0, 11, 18, 15)] 2 (1) (6) [.ref (F 0), .long e, .int n, .ref out] X (fun o X' => o = .inl (some (.int (nI (fFeed S e n).1))) ∧ ∃ (V' : Nat → Nat) (I' : Nat → Option Imm) (f' : Nat → Int64), pG V V' (1) (6) ∧ xCo D X' F V' I' A s out f' (fFeed S e n).2.2 ∧ (fFeed S e n).1 ≤ 2 ∧ ((fFeed S e n).1 = 0 → f' 0 = Int32.toInt64 (fFeed S e n).2.1)) := by
  have htk := hC.1.1
  have hK := hC.1
  refine ⟨[some (.ref (F 0)), some (.long e), none, some (.int n), some (.ref out), none], rfl, Nat.le_of_ble_eq_true rfl, fun E hD hH hl _ C => ?_⟩
  subst hD
  subst hH
  subst hl
  refine xr_aload C d_La_feed_0 2 rfl rfl ?_
  refine xr_iconst (v := 0) C d_La_feed_2 3 rfl (by decide) ?_
  refine xr_aload_n C d_La_feed_3 4 rfl rfl ?_
  refine xr_lload_n C d_La_feed_4 5 rfl rfl ?_
  refine xr_iload_n C d_La_feed_5 6 rfl rfl ?_
  refine xr_callV C (c_TK_feed hK) k_TK_feed d_La_feed_6 9 rfl htk rfl (Or.inl q_145) v_TK_feed e_TK_feed h_TK_feed rfl ⟨Nat.le_of_ble_eq_true rfl, Nat.le_of_ble_eq_true rfl, Nat.le_of_ble_eq_true rfl⟩ (by omega) (by omega) (fun v9 X1 hP => ?_) (fun Cn X1 hP => ?_)
  · obtain ⟨hE, V1, I1, hv, hle, hK1⟩ := hP
    have hC1 := hC.go hle hK1
    have hg : pG V V1 (1) (6) := hv.gr (by omega) (by omega)
    rcases hE with ⟨r0, e1⟩ | ⟨r1, e1⟩ | ⟨r1, e1⟩
    · cases e1
      refine xr_i2l C d_La_feed_9 10 rfl rfl ?_
      refine xr_last (j := 0) C d_La_feed_10 11 rfl hC1.o rfl (by omega) (by omega) ?_
      refine xr_goto C d_La_feed_11 22 (by decide) ?_
      refine xr_iconst (v := 0) C d_La_feed_22 23 rfl (by decide) ?_
      refine xr_iret C d_La_feed_23 (by omega) (by omega) ⟨by rw [r0]; rfl, V1, _, _, hg, hC1.put, Nat.le_trans (Nat.le_of_eq r0) (by decide), fun _ => ?_⟩
      exact pk_uLs
    · cases e1
    · cases e1
  · obtain ⟨hE, V1, I1, hv, hle, hK1⟩ := hP
    have hC1 := hC.go hle hK1
    have hg : pG V V1 (1) (6) := hv.gr (by omega) (by omega)
    rcases hE with ⟨r0, e1⟩ | ⟨r1, e1⟩ | ⟨r1, e1⟩
    · cases e1
    · cases e1
      refine xTh_catch C (pre := []) (suf := [(0, 11, 18, 15)]) (x := (0, 11, 14, 13)) (name := "java/lang/IllegalArgumentException") rfl (fun z hz => by cases hz) (by decide) (by decide) q_143 q_151 (fun a => ?_)
      refine xr_astore C d_La_feed_14 16 rfl rfl rfl ?_
      refine xr_iconst (v := 1) C d_La_feed_16 17 rfl (by decide) ?_
      exact xr_iret C d_La_feed_17 (by omega) (by omega) ⟨by rw [r1]; rfl, V1, I1, f, hg, hC1, Nat.le_trans (Nat.le_of_eq r1) (by decide), fun h => absurd (r1.symm.trans h) (by decide)⟩
    · cases e1
      refine xTh_catch C (pre := [(0, 11, 14, 13)]) (suf := []) (x := (0, 11, 18, 15)) (name := "java/lang/IllegalStateException") rfl (fun z hz => by rw [List.mem_singleton.mp hz]; exact ⟨by decide, "java/lang/IllegalArgumentException", q_143, C.kk.2.2.2.2.2.2.2.2.2.1⟩) (by decide) (by decide) q_144 q_218 (fun a => ?_)
      refine xr_astore C d_La_feed_18 20 rfl rfl rfl ?_
      refine xr_iconst (v := 2) C d_La_feed_20 21 rfl (by decide) ?_
      exact xr_iret C d_La_feed_21 (by omega) (by omega) ⟨by rw [r1]; rfl, V1, I1, f, hg, hC1, Nat.le_trans (Nat.le_of_eq r1) (by decide), fun h => absurd (r1.symm.trans h) (by decide)⟩
theorem q_235 : Cond.classLink "TwinKeepersLaw" 21 "java/lang/IndexOutOfBoundsException" ∈ xT := xin 235 (by decide +kernel) (by decide +kernel)
theorem q_246 : Cond.castable "java/lang/IndexOutOfBoundsException" "java/lang/IndexOutOfBoundsException" ∈ xT := xin 246 (by decide +kernel) (by decide +kernel)
set_option maxRecDepth 100000 in
set_option maxHeartbeats 4000000 in
theorem c_La_open {l : Launch} {D : va_G} {H0 : Heap} {X : xH} {F V : Nat → Nat} {I : Nat → Option Imm} {A : Nat → Nat} {s : MS} {out : Nat} {f : Nat → Int64} {S : St} (hC : xCo D X F V I A s out f S) {z : Int32} {p : Int32}  : xMet l D H0 y_La_open b_La_open 5 (some .int) [(0, 10, 13, 21), (0, 10, 17, 13)] 8 (3) (211) [.ref (F 0), .int z, .int p, .ref out] X (fun o X' => o = .inl (some (.int (nI (fOpen S z p).1))) ∧ ∃ (V' : Nat → Nat) (I' : Nat → Option Imm) (f' : Nat → Int64), pG V V' (3) (211) ∧ xCo D X' F V' I' A s out f' (fOpen S z p).2.2 ∧ (fOpen S z p).1 ≤ 2 ∧ ((fOpen S z p).1 = 0 → f' 0 = Int32.toInt64 (fOpen S z p).2.1)) := by
  have htk := hC.1.1
  have hK := hC.1
  refine ⟨[some (.ref (F 0)), some (.int z), some (.int p), some (.ref out), none], rfl, Nat.le_of_ble_eq_true rfl, fun E hD hH hl _ C => ?_⟩
  subst hD
  subst hH
  subst hl
  refine xr_aload_n C d_La_open_0 1 rfl rfl ?_
  refine xr_iconst (v := 0) C d_La_open_1 2 rfl (by decide) ?_
  refine xr_aload_n C d_La_open_2 3 rfl rfl ?_
  refine xr_iload_n C d_La_open_3 4 rfl rfl ?_
  refine xr_iload_n C d_La_open_4 5 rfl rfl ?_
  refine xr_callV C (c_TK_open hK) k_TK_open d_La_open_5 8 rfl htk rfl (Or.inl q_236) v_TK_open e_TK_open h_TK_open rfl ⟨Nat.le_of_ble_eq_true rfl, Nat.le_of_ble_eq_true rfl, Nat.le_of_ble_eq_true rfl⟩ (by omega) (by omega) (fun v9 X1 hP => ?_) (fun Cn X1 hP => ?_)
  · obtain ⟨hE, V1, I1, hv, hle, hK1⟩ := hP
    have hC1 := hC.go hle hK1
    have hg : pG V V1 (3) (211) := hv.gr (by omega) (by omega)
    rcases hE with ⟨r0, e1⟩ | ⟨r1, e1⟩ | ⟨r1, e1⟩
    · cases e1
      refine xr_i2l C d_La_open_8 9 rfl rfl ?_
      refine xr_last (j := 0) C d_La_open_9 10 rfl hC1.o rfl (by omega) (by omega) ?_
      refine xr_goto C d_La_open_10 21 (by decide) ?_
      refine xr_iconst (v := 0) C d_La_open_21 22 rfl (by decide) ?_
      refine xr_iret C d_La_open_22 (by omega) (by omega) ⟨by rw [r0]; rfl, V1, _, _, hg, hC1.put, Nat.le_trans (Nat.le_of_eq r0) (by decide), fun _ => ?_⟩
      exact pk_uLs
    · cases e1
    · cases e1
  · obtain ⟨hE, V1, I1, hv, hle, hK1⟩ := hP
    have hC1 := hC.go hle hK1
    have hg : pG V V1 (3) (211) := hv.gr (by omega) (by omega)
    rcases hE with ⟨r0, e1⟩ | ⟨r1, e1⟩ | ⟨r1, e1⟩
    · cases e1
    · cases e1
      refine xTh_catch C (pre := []) (suf := [(0, 10, 17, 13)]) (x := (0, 10, 13, 21)) (name := "java/lang/IndexOutOfBoundsException") rfl (fun z hz => by cases hz) (by decide) (by decide) q_235 q_246 (fun a => ?_)
      refine xr_astore C d_La_open_13 15 rfl rfl rfl ?_
      refine xr_iconst (v := 1) C d_La_open_15 16 rfl (by decide) ?_
      exact xr_iret C d_La_open_16 (by omega) (by omega) ⟨by rw [r1]; rfl, V1, I1, f, hg, hC1, Nat.le_trans (Nat.le_of_eq r1) (by decide), fun h => absurd (r1.symm.trans h) (by decide)⟩
    · cases e1
      refine xTh_catch C (pre := [(0, 10, 13, 21)]) (suf := []) (x := (0, 10, 17, 13)) (name := "java/lang/IllegalArgumentException") rfl (fun z hz => by rw [List.mem_singleton.mp hz]; exact ⟨by decide, "java/lang/IndexOutOfBoundsException", q_235, C.kk.2.2.2.2.2.2.2.2.2.2⟩) (by decide) (by decide) q_143 q_151 (fun a => ?_)
      refine xr_astore C d_La_open_17 19 rfl rfl rfl ?_
      refine xr_iconst (v := 2) C d_La_open_19 20 rfl (by decide) ?_
      exact xr_iret C d_La_open_20 (by omega) (by omega) ⟨by rw [r1]; rfl, V1, I1, f, hg, hC1, Nat.le_trans (Nat.le_of_eq r1) (by decide), fun h => absurd (r1.symm.trans h) (by decide)⟩
set_option maxRecDepth 100000 in
set_option maxHeartbeats 4000000 in
theorem c_La_run {l : Launch} {D : va_G} {H0 : Heap} {X : xH} {F V : Nat → Nat} {I : Nat → Option Imm} {A : Nat → Nat} {s : MS} {out : Nat} {f : Nat → Int64} {S : St} (hC : xCo D X F V I A s out f S) {z : Int32} {p : Int32} {sn : Int32} {sr : Int32} {h : Int32}  : xMet l D H0 y_La_run b_La_run 8 (some .int) [(0, 16, 19, 21), (0, 16, 23, 13)] 9 (9) (1500) [.ref (F 0), .int z, .int p, .int sn, .int sr, .int h, .ref out] X (fun o X' => o = .inl (some (.int (nI (fRun S z p sn sr h).1))) ∧ ∃ (V' : Nat → Nat) (I' : Nat → Option Imm) (f' : Nat → Int64), pG V V' (9) (1500) ∧ xCo D X' F V' I' A s out f' (fRun S z p sn sr h).2.2 ∧ (fRun S z p sn sr h).1 ≤ 2 ∧ ((fRun S z p sn sr h).1 = 0 → f' 0 = Int32.toInt64 (fRun S z p sn sr h).2.1)) := by
  have htk := hC.1.1
  have hK := hC.1
  refine ⟨[some (.ref (F 0)), some (.int z), some (.int p), some (.int sn), some (.int sr), some (.int h), some (.ref out), none], rfl, Nat.le_of_ble_eq_true rfl, fun E hD hH hl _ C => ?_⟩
  subst hD
  subst hH
  subst hl
  refine xr_aload C d_La_run_0 2 rfl rfl ?_
  refine xr_iconst (v := 0) C d_La_run_2 3 rfl (by decide) ?_
  refine xr_aload_n C d_La_run_3 4 rfl rfl ?_
  refine xr_iload_n C d_La_run_4 5 rfl rfl ?_
  refine xr_iload_n C d_La_run_5 6 rfl rfl ?_
  refine xr_iload_n C d_La_run_6 7 rfl rfl ?_
  refine xr_iload C d_La_run_7 9 rfl rfl ?_
  refine xr_iload C d_La_run_9 11 rfl rfl ?_
  refine xr_callV C (c_TK_run hK) k_TK_run d_La_run_11 14 rfl htk rfl (Or.inl q_396) v_TK_run e_TK_run h_TK_run rfl ⟨Nat.le_of_ble_eq_true rfl, Nat.le_of_ble_eq_true rfl, Nat.le_of_ble_eq_true rfl⟩ (by omega) (by omega) (fun v9 X1 hP => ?_) (fun Cn X1 hP => ?_)
  · obtain ⟨hE, V1, I1, hv, hle, hK1⟩ := hP
    have hC1 := hC.go hle hK1
    have hg : pG V V1 (9) (1500) := hv.gr (by omega) (by omega)
    rcases hE with ⟨r0, e1⟩ | ⟨r1, e1⟩ | ⟨r1, e1⟩
    · cases e1
      refine xr_i2l C d_La_run_14 15 rfl rfl ?_
      refine xr_last (j := 0) C d_La_run_15 16 rfl hC1.o rfl (by omega) (by omega) ?_
      refine xr_goto C d_La_run_16 27 (by decide) ?_
      refine xr_iconst (v := 0) C d_La_run_27 28 rfl (by decide) ?_
      refine xr_iret C d_La_run_28 (by omega) (by omega) ⟨by rw [r0]; rfl, V1, _, _, hg, hC1.put, Nat.le_trans (Nat.le_of_eq r0) (by decide), fun _ => ?_⟩
      exact pk_uLs
    · cases e1
    · cases e1
  · obtain ⟨hE, V1, I1, hv, hle, hK1⟩ := hP
    have hC1 := hC.go hle hK1
    have hg : pG V V1 (9) (1500) := hv.gr (by omega) (by omega)
    rcases hE with ⟨r0, e1⟩ | ⟨r1, e1⟩ | ⟨r1, e1⟩
    · cases e1
    · cases e1
      refine xTh_catch C (pre := []) (suf := [(0, 16, 23, 13)]) (x := (0, 16, 19, 21)) (name := "java/lang/IndexOutOfBoundsException") rfl (fun z hz => by cases hz) (by decide) (by decide) q_235 q_246 (fun a => ?_)
      refine xr_astore C d_La_run_19 21 rfl rfl rfl ?_
      refine xr_iconst (v := 1) C d_La_run_21 22 rfl (by decide) ?_
      exact xr_iret C d_La_run_22 (by omega) (by omega) ⟨by rw [r1]; rfl, V1, I1, f, hg, hC1, Nat.le_trans (Nat.le_of_eq r1) (by decide), fun h => absurd (r1.symm.trans h) (by decide)⟩
    · cases e1
      refine xTh_catch C (pre := [(0, 16, 19, 21)]) (suf := []) (x := (0, 16, 23, 13)) (name := "java/lang/IllegalArgumentException") rfl (fun z hz => by rw [List.mem_singleton.mp hz]; exact ⟨by decide, "java/lang/IndexOutOfBoundsException", q_235, C.kk.2.2.2.2.2.2.2.2.2.2⟩) (by decide) (by decide) q_143 q_151 (fun a => ?_)
      refine xr_astore C d_La_run_23 25 rfl rfl rfl ?_
      refine xr_iconst (v := 2) C d_La_run_25 26 rfl (by decide) ?_
      exact xr_iret C d_La_run_26 (by omega) (by omega) ⟨by rw [r1]; rfl, V1, I1, f, hg, hC1, Nat.le_trans (Nat.le_of_eq r1) (by decide), fun h => absurd (r1.symm.trans h) (by decide)⟩
set_option maxRecDepth 100000 in
set_option maxHeartbeats 4000000 in
theorem c_La_read {l : Launch} {D : va_G} {H0 : Heap} {X : xH} {F V : Nat → Nat} {I : Nat → Option Imm} {A : Nat → Nat} {s : MS} {out : Nat} {f : Nat → Int64} {S : St} (hC : xCo D X F V I A s out f S) {z : Int32} {h : Int32}  : xMet l D H0 y_La_read b_La_read 5 (some .int) [(0, 10, 13, 21), (0, 10, 17, 13)] 8 (3) (606) [.ref (F 0), .int z, .int h, .ref out] X (fun o X' => o = .inl (some (.int (nI (fRead S z h).1))) ∧ ∃ (V' : Nat → Nat) (I' : Nat → Option Imm) (f' : Nat → Int64), pG V V' (3) (606) ∧ xCo D X' F V' I' A s out f' (fRead S z h).2.2 ∧ (fRead S z h).1 ≤ 2 ∧ ((fRead S z h).1 = 0 → f' 0 = Int32.toInt64 (fRead S z h).2.1)) := by
  have htk := hC.1.1
  have hK := hC.1
  refine ⟨[some (.ref (F 0)), some (.int z), some (.int h), some (.ref out), none], rfl, Nat.le_of_ble_eq_true rfl, fun E hD hH hl _ C => ?_⟩
  subst hD
  subst hH
  subst hl
  refine xr_aload_n C d_La_read_0 1 rfl rfl ?_
  refine xr_iconst (v := 0) C d_La_read_1 2 rfl (by decide) ?_
  refine xr_aload_n C d_La_read_2 3 rfl rfl ?_
  refine xr_iload_n C d_La_read_3 4 rfl rfl ?_
  refine xr_iload_n C d_La_read_4 5 rfl rfl ?_
  refine xr_callV C (c_TK_read hK) k_TK_read d_La_read_5 8 rfl htk rfl (Or.inl q_784) v_TK_read e_TK_read h_TK_read rfl ⟨Nat.le_of_ble_eq_true rfl, Nat.le_of_ble_eq_true rfl, Nat.le_of_ble_eq_true rfl⟩ (by omega) (by omega) (fun v9 X1 hP => ?_) (fun Cn X1 hP => ?_)
  · obtain ⟨hE, V1, I1, hv, hle, hK1⟩ := hP
    have hC1 := hC.go hle hK1
    have hg : pG V V1 (3) (606) := hv.gr (by omega) (by omega)
    rcases hE with ⟨r0, e1⟩ | ⟨r1, e1⟩ | ⟨r1, e1⟩
    · cases e1
      refine xr_i2l C d_La_read_8 9 rfl rfl ?_
      refine xr_last (j := 0) C d_La_read_9 10 rfl hC1.o rfl (by omega) (by omega) ?_
      refine xr_goto C d_La_read_10 21 (by decide) ?_
      refine xr_iconst (v := 0) C d_La_read_21 22 rfl (by decide) ?_
      refine xr_iret C d_La_read_22 (by omega) (by omega) ⟨by rw [r0]; rfl, V1, _, _, hg, hC1.put, Nat.le_trans (Nat.le_of_eq r0) (by decide), fun _ => ?_⟩
      exact pk_uLs
    · cases e1
    · cases e1
  · obtain ⟨hE, V1, I1, hv, hle, hK1⟩ := hP
    have hC1 := hC.go hle hK1
    have hg : pG V V1 (3) (606) := hv.gr (by omega) (by omega)
    rcases hE with ⟨r0, e1⟩ | ⟨r1, e1⟩ | ⟨r1, e1⟩
    · cases e1
    · cases e1
      refine xTh_catch C (pre := []) (suf := [(0, 10, 17, 13)]) (x := (0, 10, 13, 21)) (name := "java/lang/IndexOutOfBoundsException") rfl (fun z hz => by cases hz) (by decide) (by decide) q_235 q_246 (fun a => ?_)
      refine xr_astore C d_La_read_13 15 rfl rfl rfl ?_
      refine xr_iconst (v := 1) C d_La_read_15 16 rfl (by decide) ?_
      exact xr_iret C d_La_read_16 (by omega) (by omega) ⟨by rw [r1]; rfl, V1, I1, f, hg, hC1, Nat.le_trans (Nat.le_of_eq r1) (by decide), fun h => absurd (r1.symm.trans h) (by decide)⟩
    · cases e1
      refine xTh_catch C (pre := [(0, 10, 13, 21)]) (suf := []) (x := (0, 10, 17, 13)) (name := "java/lang/IllegalArgumentException") rfl (fun z hz => by rw [List.mem_singleton.mp hz]; exact ⟨by decide, "java/lang/IndexOutOfBoundsException", q_235, C.kk.2.2.2.2.2.2.2.2.2.2⟩) (by decide) (by decide) q_143 q_151 (fun a => ?_)
      refine xr_astore C d_La_read_17 19 rfl rfl rfl ?_
      refine xr_iconst (v := 2) C d_La_read_19 20 rfl (by decide) ?_
      exact xr_iret C d_La_read_20 (by omega) (by omega) ⟨by rw [r1]; rfl, V1, I1, f, hg, hC1, Nat.le_trans (Nat.le_of_eq r1) (by decide), fun h => absurd (r1.symm.trans h) (by decide)⟩
set_option maxRecDepth 100000 in
set_option maxHeartbeats 4000000 in
theorem c_La_clear {l : Launch} {D : va_G} {H0 : Heap} {X : xH} {F V : Nat → Nat} {I : Nat → Option Imm} {A : Nat → Nat} {s : MS} {out : Nat} {f : Nat → Int64} {S : St} (hC : xCo D X F V I A s out f S) {z : Int32}  : xMet l D H0 y_La_clear b_La_clear 4 (some .int) [(0, 9, 12, 21)] 3 (1) (6) [.ref (F 0), .int z, .ref out] X (fun o X' => o = .inl (some (.int (nI (fClear S z).1))) ∧ ∃ (V' : Nat → Nat) (I' : Nat → Option Imm) (f' : Nat → Int64), pG V V' (1) (6) ∧ xCo D X' F V' I' A s out f' (fClear S z).2.2 ∧ (fClear S z).1 ≤ 2 ∧ ((fClear S z).1 = 0 → f' 0 = Int32.toInt64 (fClear S z).2.1)) := by
  have htk := hC.1.1
  have hK := hC.1
  refine ⟨[some (.ref (F 0)), some (.int z), some (.ref out), none], rfl, Nat.le_of_ble_eq_true rfl, fun E hD hH hl _ C => ?_⟩
  subst hD
  subst hH
  subst hl
  refine xr_aload_n C d_La_clear_0 1 rfl rfl ?_
  refine xr_iconst (v := 0) C d_La_clear_1 2 rfl (by decide) ?_
  refine xr_aload_n C d_La_clear_2 3 rfl rfl ?_
  refine xr_iload_n C d_La_clear_3 4 rfl rfl ?_
  refine xr_callV C (c_TK_clear hK) k_TK_clear d_La_clear_4 7 rfl htk rfl (Or.inl q_882) v_TK_clear e_TK_clear h_TK_clear rfl ⟨Nat.le_of_ble_eq_true rfl, Nat.le_of_ble_eq_true rfl, Nat.le_of_ble_eq_true rfl⟩ (by omega) (by omega) (fun v9 X1 hP => ?_) (fun Cn X1 hP => ?_)
  · obtain ⟨hE, V1, I1, hv, hle, hK1⟩ := hP
    have hC1 := hC.go hle hK1
    have hg : pG V V1 (1) (6) := hv.gr (by omega) (by omega)
    rcases hE with ⟨r0, e1⟩ | ⟨r1, e1⟩ | ⟨r1, e1⟩
    · cases e1
      refine xr_i2l C d_La_clear_7 8 rfl rfl ?_
      refine xr_last (j := 0) C d_La_clear_8 9 rfl hC1.o rfl (by omega) (by omega) ?_
      refine xr_goto C d_La_clear_9 15 (by decide) ?_
      refine xr_iconst (v := 0) C d_La_clear_15 16 rfl (by decide) ?_
      refine xr_iret C d_La_clear_16 (by omega) (by omega) ⟨by rw [r0]; rfl, V1, _, _, hg, hC1.put, Nat.le_trans (Nat.le_of_eq r0) (by decide), fun _ => ?_⟩
      exact pk_uLs
    · cases e1
    · cases e1
  · obtain ⟨hE, V1, I1, hv, hle, hK1⟩ := hP
    have hC1 := hC.go hle hK1
    have hg : pG V V1 (1) (6) := hv.gr (by omega) (by omega)
    rcases hE with ⟨r0, e1⟩ | ⟨r1, e1⟩ | ⟨r1, e1⟩
    · cases e1
    · cases e1
      refine xTh_catch C (pre := []) (suf := []) (x := (0, 9, 12, 21)) (name := "java/lang/IndexOutOfBoundsException") rfl (fun z hz => by cases hz) (by decide) (by decide) q_235 q_246 (fun a => ?_)
      refine xr_astore_n C d_La_clear_12 13 rfl rfl rfl ?_
      refine xr_iconst (v := 1) C d_La_clear_13 14 rfl (by decide) ?_
      exact xr_iret C d_La_clear_14 (by omega) (by omega) ⟨by rw [r1]; rfl, V1, I1, f, hg, hC1, Nat.le_trans (Nat.le_of_eq r1) (by decide), fun h => absurd (r1.symm.trans h) (by decide)⟩
    · exact absurd r1 fClear_n2
set_option maxRecDepth 100000 in
set_option maxHeartbeats 4000000 in
theorem c_La_key {l : Launch} {D : va_G} {H0 : Heap} {X : xH} {F V : Nat → Nat} {I : Nat → Option Imm} {A : Nat → Nat} {s : MS} {out : Nat} {f : Nat → Int64} {S : St} (hC : xCo D X F V I A s out f S) {z : Int32} {k : Int32} {w : Int32}  : xMet l D H0 y_La_key b_La_key 6 (some .int) [(0, 12, 15, 21)] 5 (1) (6) [.ref (F 0), .int z, .int k, .int w, .ref out] X (fun o X' => o = .inl (some (.int (nI (fKey S z k w).1))) ∧ ∃ (V' : Nat → Nat) (I' : Nat → Option Imm) (f' : Nat → Int64), pG V V' (1) (6) ∧ xCo D X' F V' I' A s out f' (fKey S z k w).2.2 ∧ (fKey S z k w).1 ≤ 2 ∧ ((fKey S z k w).1 = 0 → f' 0 = Int32.toInt64 (fKey S z k w).2.1)) := by
  have htk := hC.1.1
  have hK := hC.1
  refine ⟨[some (.ref (F 0)), some (.int z), some (.int k), some (.int w), some (.ref out), none], rfl, Nat.le_of_ble_eq_true rfl, fun E hD hH hl _ C => ?_⟩
  subst hD
  subst hH
  subst hl
  refine xr_aload C d_La_key_0 2 rfl rfl ?_
  refine xr_iconst (v := 0) C d_La_key_2 3 rfl (by decide) ?_
  refine xr_aload_n C d_La_key_3 4 rfl rfl ?_
  refine xr_iload_n C d_La_key_4 5 rfl rfl ?_
  refine xr_iload_n C d_La_key_5 6 rfl rfl ?_
  refine xr_iload_n C d_La_key_6 7 rfl rfl ?_
  refine xr_callV C (c_TK_key hK) k_TK_key d_La_key_7 10 rfl htk rfl (Or.inl q_899) v_TK_key e_TK_key h_TK_key rfl ⟨Nat.le_of_ble_eq_true rfl, Nat.le_of_ble_eq_true rfl, Nat.le_of_ble_eq_true rfl⟩ (by omega) (by omega) (fun v9 X1 hP => ?_) (fun Cn X1 hP => ?_)
  · obtain ⟨hE, V1, I1, hv, hle, hK1⟩ := hP
    have hC1 := hC.go hle hK1
    have hg : pG V V1 (1) (6) := hv.gr (by omega) (by omega)
    rcases hE with ⟨r0, e1⟩ | ⟨r1, e1⟩ | ⟨r1, e1⟩
    · cases e1
      refine xr_i2l C d_La_key_10 11 rfl rfl ?_
      refine xr_last (j := 0) C d_La_key_11 12 rfl hC1.o rfl (by omega) (by omega) ?_
      refine xr_goto C d_La_key_12 19 (by decide) ?_
      refine xr_iconst (v := 0) C d_La_key_19 20 rfl (by decide) ?_
      refine xr_iret C d_La_key_20 (by omega) (by omega) ⟨by rw [r0]; rfl, V1, _, _, hg, hC1.put, Nat.le_trans (Nat.le_of_eq r0) (by decide), fun _ => ?_⟩
      exact pk_uLs
    · cases e1
    · cases e1
  · obtain ⟨hE, V1, I1, hv, hle, hK1⟩ := hP
    have hC1 := hC.go hle hK1
    have hg : pG V V1 (1) (6) := hv.gr (by omega) (by omega)
    rcases hE with ⟨r0, e1⟩ | ⟨r1, e1⟩ | ⟨r1, e1⟩
    · cases e1
    · cases e1
      refine xTh_catch C (pre := []) (suf := []) (x := (0, 12, 15, 21)) (name := "java/lang/IndexOutOfBoundsException") rfl (fun z hz => by cases hz) (by decide) (by decide) q_235 q_246 (fun a => ?_)
      refine xr_astore C d_La_key_15 17 rfl rfl rfl ?_
      refine xr_iconst (v := 1) C d_La_key_17 18 rfl (by decide) ?_
      exact xr_iret C d_La_key_18 (by omega) (by omega) ⟨by rw [r1]; rfl, V1, I1, f, hg, hC1, Nat.le_trans (Nat.le_of_eq r1) (by decide), fun h => absurd (r1.symm.trans h) (by decide)⟩
    · exact absurd r1 fKey_n2
set_option maxRecDepth 100000 in
set_option maxHeartbeats 4000000 in
theorem c_La_session {l : Launch} {D : va_G} {H0 : Heap} {X : xH} {F V : Nat → Nat} {I : Nat → Option Imm} {A : Nat → Nat} {s : MS} {out : Nat} {f : Nat → Int64} {S : St} (hC : xCo D X F V I A s out f S) {z : Int32} {k : Int32} {w : Int32}  : xMet l D H0 y_La_session b_La_session 6 (some .int) [(0, 12, 15, 21)] 5 (1) (6) [.ref (F 0), .int z, .int k, .int w, .ref out] X (fun o X' => o = .inl (some (.int (nI (fSession S z k w).1))) ∧ ∃ (V' : Nat → Nat) (I' : Nat → Option Imm) (f' : Nat → Int64), pG V V' (1) (6) ∧ xCo D X' F V' I' A s out f' S ∧ (fSession S z k w).1 ≤ 2 ∧ ((fSession S z k w).1 = 0 → f' 0 = Int32.toInt64 (fSession S z k w).2)) := by
  have htk := hC.1.1
  have hK := hC.1
  refine ⟨[some (.ref (F 0)), some (.int z), some (.int k), some (.int w), some (.ref out), none], rfl, Nat.le_of_ble_eq_true rfl, fun E hD hH hl _ C => ?_⟩
  subst hD
  subst hH
  subst hl
  refine xr_aload C d_La_session_0 2 rfl rfl ?_
  refine xr_iconst (v := 0) C d_La_session_2 3 rfl (by decide) ?_
  refine xr_aload_n C d_La_session_3 4 rfl rfl ?_
  refine xr_iload_n C d_La_session_4 5 rfl rfl ?_
  refine xr_iload_n C d_La_session_5 6 rfl rfl ?_
  refine xr_iload_n C d_La_session_6 7 rfl rfl ?_
  refine xr_callV C (c_TK_session hK) k_TK_session d_La_session_7 10 rfl htk rfl (Or.inl q_890) v_TK_session e_TK_session h_TK_session rfl ⟨Nat.le_of_ble_eq_true rfl, Nat.le_of_ble_eq_true rfl, Nat.le_of_ble_eq_true rfl⟩ (by omega) (by omega) (fun v9 X1 hP => ?_) (fun Cn X1 hP => ?_)
  · obtain ⟨hE, rfl⟩ := hP
    have hC1 := hC
    have hg : pG V V 1 6 := vLe.rf.gr (by omega) (by omega)
    rcases hE with ⟨r0, e1⟩ | ⟨r1, e1⟩ | ⟨r1, e1⟩
    · cases e1
      refine xr_i2l C d_La_session_10 11 rfl rfl ?_
      refine xr_last (j := 0) C d_La_session_11 12 rfl hC1.o rfl (by omega) (by omega) ?_
      refine xr_goto C d_La_session_12 19 (by decide) ?_
      refine xr_iconst (v := 0) C d_La_session_19 20 rfl (by decide) ?_
      refine xr_iret C d_La_session_20 (by omega) (by omega) ⟨by rw [r0]; rfl, V, _, _, hg, hC1.put, Nat.le_trans (Nat.le_of_eq r0) (by decide), fun _ => ?_⟩
      exact pk_uLs
    · cases e1
    · cases e1
  · obtain ⟨hE, rfl⟩ := hP
    have hC1 := hC
    have hg : pG V V 1 6 := vLe.rf.gr (by omega) (by omega)
    rcases hE with ⟨r0, e1⟩ | ⟨r1, e1⟩ | ⟨r1, e1⟩
    · cases e1
    · cases e1
      refine xTh_catch C (pre := []) (suf := []) (x := (0, 12, 15, 21)) (name := "java/lang/IndexOutOfBoundsException") rfl (fun z hz => by cases hz) (by decide) (by decide) q_235 q_246 (fun a => ?_)
      refine xr_astore C d_La_session_15 17 rfl rfl rfl ?_
      refine xr_iconst (v := 1) C d_La_session_17 18 rfl (by decide) ?_
      exact xr_iret C d_La_session_18 (by omega) (by omega) ⟨by rw [r1]; rfl, V, I, f, hg, hC1, Nat.le_trans (Nat.le_of_eq r1) (by decide), fun h => absurd (r1.symm.trans h) (by decide)⟩
    · exact absurd r1 fSession_n2
set_option maxRecDepth 100000 in
set_option maxHeartbeats 4000000 in
theorem c_La_state {l : Launch} {D : va_G} {H0 : Heap} {X : xH} {F V : Nat → Nat} {I : Nat → Option Imm} {A : Nat → Nat} {s : MS} {out : Nat} {f : Nat → Int64} {S : St} (hC : xCo D X F V I A s out f S) {z : Int32} {w : Int32}  : xMet l D H0 y_La_state b_La_state 5 (some .int) [(0, 10, 13, 21)] 5 (1) (6) [.ref (F 0), .int z, .int w, .ref out] X (fun o X' => o = .inl (some (.int (nI (fState S z w).1))) ∧ ∃ (V' : Nat → Nat) (I' : Nat → Option Imm) (f' : Nat → Int64), pG V V' (1) (6) ∧ xCo D X' F V' I' A s out f' S ∧ (fState S z w).1 ≤ 2 ∧ ((fState S z w).1 = 0 → f' 0 = Int32.toInt64 (fState S z w).2)) := by
  have htk := hC.1.1
  have hK := hC.1
  refine ⟨[some (.ref (F 0)), some (.int z), some (.int w), some (.ref out), none], rfl, Nat.le_of_ble_eq_true rfl, fun E hD hH hl _ C => ?_⟩
  subst hD
  subst hH
  subst hl
  refine xr_aload_n C d_La_state_0 1 rfl rfl ?_
  refine xr_iconst (v := 0) C d_La_state_1 2 rfl (by decide) ?_
  refine xr_aload_n C d_La_state_2 3 rfl rfl ?_
  refine xr_iload_n C d_La_state_3 4 rfl rfl ?_
  refine xr_iload_n C d_La_state_4 5 rfl rfl ?_
  refine xr_callV C (c_TK_state hK) k_TK_state d_La_state_5 8 rfl htk rfl (Or.inl q_909) v_TK_state e_TK_state h_TK_state rfl ⟨Nat.le_of_ble_eq_true rfl, Nat.le_of_ble_eq_true rfl, Nat.le_of_ble_eq_true rfl⟩ (by omega) (by omega) (fun v9 X1 hP => ?_) (fun Cn X1 hP => ?_)
  · obtain ⟨hE, rfl⟩ := hP
    have hC1 := hC
    have hg : pG V V 1 6 := vLe.rf.gr (by omega) (by omega)
    rcases hE with ⟨r0, e1⟩ | ⟨r1, e1⟩ | ⟨r1, e1⟩
    · cases e1
      refine xr_i2l C d_La_state_8 9 rfl rfl ?_
      refine xr_last (j := 0) C d_La_state_9 10 rfl hC1.o rfl (by omega) (by omega) ?_
      refine xr_goto C d_La_state_10 17 (by decide) ?_
      refine xr_iconst (v := 0) C d_La_state_17 18 rfl (by decide) ?_
      refine xr_iret C d_La_state_18 (by omega) (by omega) ⟨by rw [r0]; rfl, V, _, _, hg, hC1.put, Nat.le_trans (Nat.le_of_eq r0) (by decide), fun _ => ?_⟩
      exact pk_uLs
    · cases e1
    · cases e1
  · obtain ⟨hE, rfl⟩ := hP
    have hC1 := hC
    have hg : pG V V 1 6 := vLe.rf.gr (by omega) (by omega)
    rcases hE with ⟨r0, e1⟩ | ⟨r1, e1⟩ | ⟨r1, e1⟩
    · cases e1
    · cases e1
      refine xTh_catch C (pre := []) (suf := []) (x := (0, 10, 13, 21)) (name := "java/lang/IndexOutOfBoundsException") rfl (fun z hz => by cases hz) (by decide) (by decide) q_235 q_246 (fun a => ?_)
      refine xr_astore C d_La_state_13 15 rfl rfl rfl ?_
      refine xr_iconst (v := 1) C d_La_state_15 16 rfl (by decide) ?_
      exact xr_iret C d_La_state_16 (by omega) (by omega) ⟨by rw [r1]; rfl, V, I, f, hg, hC1, Nat.le_trans (Nat.le_of_eq r1) (by decide), fun h => absurd (r1.symm.trans h) (by decide)⟩
    · exact absurd r1 fState_n2
set_option maxRecDepth 100000 in
set_option maxHeartbeats 4000000 in
theorem c_La_byteAt {l : Launch} {D : va_G} {H0 : Heap} {X : xH} {F V : Nat → Nat} {I : Nat → Option Imm} {A : Nat → Nat} {s : MS} {out : Nat} {f : Nat → Int64} {S : St} (hC : xCo D X F V I A s out f S) {z : Int32}  : xMet l D H0 y_La_byteAt b_La_byteAt 4 (some .int) [(0, 9, 12, 21)] 1 (1) (6) [.ref (F 0), .int z, .ref out] X (fun o X' => o = .inl (some (.int (nI (fByteAt S z).1))) ∧ ∃ (V' : Nat → Nat) (I' : Nat → Option Imm) (f' : Nat → Int64), pG V V' (1) (6) ∧ xCo D X' F V' I' A s out f' S ∧ (fByteAt S z).1 ≤ 2 ∧ ((fByteAt S z).1 = 0 → f' 0 = Int32.toInt64 (fByteAt S z).2)) := by
  have htk := hC.1.1
  have hK := hC.1
  refine ⟨[some (.ref (F 0)), some (.int z), some (.ref out), none], rfl, Nat.le_of_ble_eq_true rfl, fun E hD hH hl _ C => ?_⟩
  subst hD
  subst hH
  subst hl
  refine xr_aload_n C d_La_byteAt_0 1 rfl rfl ?_
  refine xr_iconst (v := 0) C d_La_byteAt_1 2 rfl (by decide) ?_
  refine xr_aload_n C d_La_byteAt_2 3 rfl rfl ?_
  refine xr_iload_n C d_La_byteAt_3 4 rfl rfl ?_
  refine xr_callV C (c_TK_byteAt hK) k_TK_byteAt d_La_byteAt_4 7 rfl htk rfl (Or.inl q_929) v_TK_byteAt e_TK_byteAt h_TK_byteAt rfl ⟨Nat.le_of_ble_eq_true rfl, Nat.le_of_ble_eq_true rfl, Nat.le_of_ble_eq_true rfl⟩ (by omega) (by omega) (fun v9 X1 hP => ?_) (fun Cn X1 hP => ?_)
  · obtain ⟨hE, rfl⟩ := hP
    have hC1 := hC
    have hg : pG V V 1 6 := vLe.rf.gr (by omega) (by omega)
    rcases hE with ⟨r0, e1⟩ | ⟨r1, e1⟩ | ⟨r1, e1⟩
    · cases e1
      refine xr_i2l C d_La_byteAt_7 8 rfl rfl ?_
      refine xr_last (j := 0) C d_La_byteAt_8 9 rfl hC1.o rfl (by omega) (by omega) ?_
      refine xr_goto C d_La_byteAt_9 15 (by decide) ?_
      refine xr_iconst (v := 0) C d_La_byteAt_15 16 rfl (by decide) ?_
      refine xr_iret C d_La_byteAt_16 (by omega) (by omega) ⟨by rw [r0]; rfl, V, _, _, hg, hC1.put, Nat.le_trans (Nat.le_of_eq r0) (by decide), fun _ => ?_⟩
      exact pk_uLs
    · cases e1
    · cases e1
  · obtain ⟨hE, rfl⟩ := hP
    have hC1 := hC
    have hg : pG V V 1 6 := vLe.rf.gr (by omega) (by omega)
    rcases hE with ⟨r0, e1⟩ | ⟨r1, e1⟩ | ⟨r1, e1⟩
    · cases e1
    · cases e1
      refine xTh_catch C (pre := []) (suf := []) (x := (0, 9, 12, 21)) (name := "java/lang/IndexOutOfBoundsException") rfl (fun z hz => by cases hz) (by decide) (by decide) q_235 q_246 (fun a => ?_)
      refine xr_astore_n C d_La_byteAt_12 13 rfl rfl rfl ?_
      refine xr_iconst (v := 1) C d_La_byteAt_13 14 rfl (by decide) ?_
      exact xr_iret C d_La_byteAt_14 (by omega) (by omega) ⟨by rw [r1]; rfl, V, I, f, hg, hC1, Nat.le_trans (Nat.le_of_eq r1) (by decide), fun h => absurd (r1.symm.trans h) (by decide)⟩
    · exact absurd r1 fByteAt_n2
set_option maxRecDepth 100000 in
set_option maxHeartbeats 4000000 in
theorem c_La_row {l : Launch} {D : va_G} {H0 : Heap} {X : xH} {F V : Nat → Nat} {I : Nat → Option Imm} {A : Nat → Nat} {s : MS} {out : Nat} {f : Nat → Int64} {S : St} (hC : xCo D X F V I A s out f S) {z : Int32} {d : Nat} (hd : if z = 0 ∨ z = 1 then isR (V 1) (8 + rbS (S.2.1 (mIx z)).1 + rbE (S.2.1 (mIx z)).2.1) d else d = V 1) (hdl : V 1 ≤ d) : xMet l D H0 y_La_row b_La_row 4 (some .int) [(0, 9, 12, 21)] 6 (d - V 1 + 1) (2 * (d - V 1) + 6) [.ref (F 0), .int z, .ref out] X (fun o X' => o = .inl (some (.int (nI (fRow S z).1))) ∧ ∃ (V' : Nat → Nat) (I' : Nat → Option Imm) (f' : Nat → Int64), pG V V' (d - V 1 + 1) (2 * (d - V 1) + 6) ∧ xCo D X' F V' I' A s out f' (fRow S z).2.2 ∧ (fRow S z).1 ≤ 2 ∧ ((fRow S z).1 = 0 → f' 0 = Int32.toInt64 (fRow S z).2.1)) := by
  have htk := hC.1.1
  have hK := hC.1
  refine ⟨[some (.ref (F 0)), some (.int z), some (.ref out), none], rfl, Nat.le_of_ble_eq_true rfl, fun E hD hH hl _ C => ?_⟩
  subst hD
  subst hH
  subst hl
  refine xr_aload_n C d_La_row_0 1 rfl rfl ?_
  refine xr_iconst (v := 0) C d_La_row_1 2 rfl (by decide) ?_
  refine xr_aload_n C d_La_row_2 3 rfl rfl ?_
  refine xr_iload_n C d_La_row_3 4 rfl rfl ?_
  refine xr_callV C (c_TK_row hK hd) k_TK_row d_La_row_4 7 rfl htk rfl (Or.inl q_815) v_TK_row e_TK_row h_TK_row rfl ⟨Nat.le_of_ble_eq_true rfl, Nat.le_of_ble_eq_true rfl, Nat.le_of_ble_eq_true rfl⟩ (by omega) (by omega) (fun v9 X1 hP => ?_) (fun Cn X1 hP => ?_)
  · obtain ⟨hE, V1, I1, hv, hle, hK1⟩ := hP
    have hC1 := hC.go hle hK1
    have hg : pG V V1 (d - V 1 + 1) (2 * (d - V 1) + 6) := hv.gr hdl
    rcases hE with ⟨r0, e1⟩ | ⟨r1, e1⟩ | ⟨r1, e1⟩
    · cases e1
      refine xr_i2l C d_La_row_7 8 rfl rfl ?_
      refine xr_last (j := 0) C d_La_row_8 9 rfl hC1.o rfl (by omega) (by omega) ?_
      refine xr_goto C d_La_row_9 15 (by decide) ?_
      refine xr_iconst (v := 0) C d_La_row_15 16 rfl (by decide) ?_
      refine xr_iret C d_La_row_16 (by omega) (by omega) ⟨by rw [r0]; rfl, V1, _, _, hg, hC1.put, Nat.le_trans (Nat.le_of_eq r0) (by decide), fun _ => ?_⟩
      exact pk_uLs
    · cases e1
    · cases e1
  · obtain ⟨hE, V1, I1, hv, hle, hK1⟩ := hP
    have hC1 := hC.go hle hK1
    have hg : pG V V1 (d - V 1 + 1) (2 * (d - V 1) + 6) := hv.gr hdl
    rcases hE with ⟨r0, e1⟩ | ⟨r1, e1⟩ | ⟨r1, e1⟩
    · cases e1
    · cases e1
      refine xTh_catch C (pre := []) (suf := []) (x := (0, 9, 12, 21)) (name := "java/lang/IndexOutOfBoundsException") rfl (fun z hz => by cases hz) (by decide) (by decide) q_235 q_246 (fun a => ?_)
      refine xr_astore_n C d_La_row_12 13 rfl rfl rfl ?_
      refine xr_iconst (v := 1) C d_La_row_13 14 rfl (by decide) ?_
      exact xr_iret C d_La_row_14 (by omega) (by omega) ⟨by rw [r1]; rfl, V1, I1, f, hg, hC1, Nat.le_trans (Nat.le_of_eq r1) (by decide), fun h => absurd (r1.symm.trans h) (by decide)⟩
    · exact absurd r1 fRow_n2
set_option maxRecDepth 100000 in
set_option maxHeartbeats 4000000 in
theorem c_La_make {l : Launch} {D : va_G} {H0 : Heap} {X : xH} {F V : Nat → Nat} {I : Nat → Option Imm} {A : Nat → Nat} {s : MS} {out : Nat} {f : Nat → Int64} {S : St} (hC : xCo D X F V I A s out f S) {z1 : Int32} {z2 : Int32} {d1 d2 : Nat} (hd : if mkD S z1 z2 then isL (V (20 + mIx z2)) (S.2.1 (mIx z1)).1.length d1 ∧ isL (V (40 + mIx z2)) (S.2.1 (mIx z1)).2.1.length d2 else d1 = V (20 + mIx z2) ∧ d2 = V (40 + mIx z2)) (hdl : mIx z2 < 2 ∧ V (20 + mIx z2) ≤ d1 ∧ V (40 + mIx z2) ≤ d2 ∨ d1 = V (20 + mIx z2) ∧ d2 = V (40 + mIx z2)) : xMet l D H0 y_La_make b_La_make 5 (some .int) [(0, 17, 20, 21)] 8 ((d1 - V (20 + mIx z2)) + (d2 - V (40 + mIx z2)) + 1) (200 * ((d1 - V (20 + mIx z2)) + (d2 - V (40 + mIx z2))) + 6) [.ref (F 0), .int z1, .int z2, .ref out] X (fun o X' => o = .inl (some (.int (nI (fMake S z1 z2).1))) ∧ ∃ (V' : Nat → Nat) (I' : Nat → Option Imm) (f' : Nat → Int64), pG V V' ((d1 - V (20 + mIx z2)) + (d2 - V (40 + mIx z2)) + 1) (200 * ((d1 - V (20 + mIx z2)) + (d2 - V (40 + mIx z2))) + 6) ∧ xCo D X' F V' I' A s out f' (fMake S z1 z2).2.2 ∧ (fMake S z1 z2).1 ≤ 2 ∧ ((fMake S z1 z2).1 = 0 → f' 0 = Int32.toInt64 (fMake S z1 z2).2.1)) := by
  have htk := hC.1.1
  have hK := hC.1
  refine ⟨[some (.ref (F 0)), some (.int z1), some (.int z2), some (.ref out), none], rfl, Nat.le_of_ble_eq_true rfl, fun E hD hH hl _ C => ?_⟩
  subst hD
  subst hH
  subst hl
  refine xr_aload_n C d_La_make_0 1 rfl rfl ?_
  refine xr_iconst (v := 0) C d_La_make_1 2 rfl (by decide) ?_
  refine xr_aload_n C d_La_make_2 3 rfl rfl ?_
  refine xr_iload_n C d_La_make_3 4 rfl rfl ?_
  refine xr_iload_n C d_La_make_4 5 rfl rfl ?_
  refine xr_callV C (c_TK_make hK hd) k_TK_make d_La_make_5 8 rfl htk rfl (Or.inl q_840) v_TK_make e_TK_make h_TK_make rfl ⟨Nat.le_of_ble_eq_true rfl, Nat.le_of_ble_eq_true rfl, Nat.le_of_ble_eq_true rfl⟩ (by omega) (by omega) (fun v9 X1 hP => ?_) (fun Cn X1 hP => ?_)
  · obtain ⟨hE, V1, I1, hv, hle, hK1⟩ := hP
    have hC1 := hC.go hle hK1
    have hg : pG V V1 ((d1 - V (20 + mIx z2)) + (d2 - V (40 + mIx z2)) + 1) (200 * ((d1 - V (20 + mIx z2)) + (d2 - V (40 + mIx z2))) + 6) := hv.gr hdl
    rcases hE with ⟨r0, e1⟩ | ⟨r1, e1⟩ | ⟨r1, e1⟩
    · cases e1
      have hb : (fMake S z1 z2).2.1 = 0 ∨ (fMake S z1 z2).2.1 = 1 := fMake_b r0
      rcases hb with hb | hb
      · refine xr_toi (show _ = (0 : Int32) from hb) ?_
        refine xr_if_eq C d_La_make_8 11 15 rfl (by decide) (fun _ => ?_) (fun h => absurd rfl h)
        refine xr_lconst (v := 0) C d_La_make_15 16 rfl (by decide) ?_
        refine xr_last (j := 0) C d_La_make_16 17 rfl hC1.o rfl (by omega) (by omega) ?_
        refine xr_goto C d_La_make_17 24 (by decide) ?_
        refine xr_iconst (v := 0) C d_La_make_24 25 rfl (by decide) ?_
        refine xr_iret C d_La_make_25 (by omega) (by omega) ⟨by rw [r0]; rfl, V1, _, _, hg, hC1.put, Nat.le_trans (Nat.le_of_eq r0) (by decide), fun _ => ?_⟩
        exact pk_uLs.trans (by rw [hb]; rfl)
      · refine xr_toi (show _ = (1 : Int32) from hb) ?_
        refine xr_if_eq C d_La_make_8 11 15 rfl (by decide) (fun h => absurd h (by decide)) (fun _ => ?_)
        refine xr_lconst (v := 1) C d_La_make_11 12 rfl (by decide) ?_
        refine xr_goto C d_La_make_12 16 (by decide) ?_
        refine xr_last (j := 0) C d_La_make_16 17 rfl hC1.o rfl (by omega) (by omega) ?_
        refine xr_goto C d_La_make_17 24 (by decide) ?_
        refine xr_iconst (v := 0) C d_La_make_24 25 rfl (by decide) ?_
        refine xr_iret C d_La_make_25 (by omega) (by omega) ⟨by rw [r0]; rfl, V1, _, _, hg, hC1.put, Nat.le_trans (Nat.le_of_eq r0) (by decide), fun _ => ?_⟩
        exact pk_uLs.trans (by rw [hb]; rfl)
    · cases e1
    · cases e1
  · obtain ⟨hE, V1, I1, hv, hle, hK1⟩ := hP
    have hC1 := hC.go hle hK1
    have hg : pG V V1 ((d1 - V (20 + mIx z2)) + (d2 - V (40 + mIx z2)) + 1) (200 * ((d1 - V (20 + mIx z2)) + (d2 - V (40 + mIx z2))) + 6) := hv.gr hdl
    rcases hE with ⟨r0, e1⟩ | ⟨r1, e1⟩ | ⟨r1, e1⟩
    · cases e1
    · cases e1
      refine xTh_catch C (pre := []) (suf := []) (x := (0, 17, 20, 21)) (name := "java/lang/IndexOutOfBoundsException") rfl (fun z hz => by cases hz) (by decide) (by decide) q_235 q_246 (fun a => ?_)
      refine xr_astore C d_La_make_20 22 rfl rfl rfl ?_
      refine xr_iconst (v := 1) C d_La_make_22 23 rfl (by decide) ?_
      exact xr_iret C d_La_make_23 (by omega) (by omega) ⟨by rw [r1]; rfl, V1, I1, f, hg, hC1, Nat.le_trans (Nat.le_of_eq r1) (by decide), fun h => absurd (r1.symm.trans h) (by decide)⟩
    · exact absurd r1 fMake_n2
