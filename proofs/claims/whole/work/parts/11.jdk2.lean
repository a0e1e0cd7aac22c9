/-! JDK: ArrayList. -/
/-- an object that may stand in a list -/
def xOb (X : xH) (q : Nat) : Prop := ∃ (ci : Nat) (vs : List Value) (r : vw_C), X q = some (.inr (ci, vs)) ∧ xcl[ci]? = some r ∧ Cond.castable r.1 "java/lang/Object" ∈ xT
/-- what a method leaves alone: all cells but those of S; arrays of no elements always; no cell goes away -/
def xFr (S : List Nat) (X X' : xH) : Prop := (∀ (q : Nat) (v : va_E), X q = some v → (q ∉ S ∨ xz v) → X' q = some v) ∧ ∀ q : Nat, X' q = none → X q = none
theorem xFr.rf {S : List Nat} {X : xH} : xFr S X X := ⟨fun _ _ h _ => h, fun _ h => h⟩
theorem xFr.trans {S : List Nat} {X X' X'' : xH} (h1 : xFr S X X') (h2 : xFr S X' X'') : xFr S X X'' := ⟨fun q v h hs => h2.1 q v (h1.1 q v h hs) hs, fun q h => h1.2 q (h2.2 q h)⟩
theorem xFr.mono {S S' : List Nat} {X X' : xH} (h : xFr S X X') (hs : ∀ q ∈ S, q ∈ S') : xFr S' X X' := ⟨fun q v hq hn => h.1 q v hq (hn.imp (fun h1 h2 => h1 (hs q h2)) id), h.2⟩
theorem xup_dom {X Y : xH} {a : Nat} {v : va_E} (h : ∀ q : Nat, Y q = none → X q = none) : ∀ q : Nat, xup Y a v q = none → X q = none := fun q hq => by
  by_cases e : q = a
  · subst e
    rw [xup_self] at hq
    cases hq
  · rw [xup_ne e] at hq
    exact h q hq
theorem xFr.fresh {S : List Nat} {X Y : xH} {a : Nat} {v : va_E} (h : xFr S X Y) (h0 : X a = none) : xFr S X (xup Y a v) := ⟨fun q w hq hn => (xup_ne (xne_none hq h0)).trans (h.1 q w hq hn), xup_dom h.2⟩
theorem xFr.at {S : List Nat} {X Y : xH} {a : Nat} {v0 v : va_E} (h : xFr S X Y) (h0 : X a = some v0) (hz : ¬ xz v0) (ha : a ∈ S) : xFr S X (xup Y a v) := ⟨fun q w hq hn => by
  by_cases e : q = a
  · subst e
    cases h0.symm.trans hq
    exact (hn.elim (fun h => h ha) hz).elim
  · exact (xup_ne e).trans (h.1 q w hq hn), xup_dom h.2⟩
theorem xFr_up {S : List Nat} {X : xH} {a : Nat} {v0 v : va_E} (h0 : X a = some v0) (hz : ¬ xz v0) (ha : a ∈ S) : xFr S X (xup X a v) := xFr.rf.at h0 hz ha
theorem xFr_new {S : List Nat} {X : xH} {a : Nat} {v : va_E} (h0 : X a = none) : xFr S X (xup X a v) := xFr.rf.fresh h0
theorem xFr.use {S : List Nat} {X X' : xH} {q : Nat} {v : va_E} (h : xFr S X X') (hq : X q = some v) (hn : q ∉ S) : X' q = some v := h.1 q v hq (Or.inl hn)
theorem xFr.ob {S : List Nat} {X X' : xH} {q : Nat} (h : xFr S X X') (hq : xOb X q) (hn : q ∉ S) : xOb X' q := by
  obtain ⟨ci, vs, r, h1, h2⟩ := hq
  exact ⟨ci, vs, r, h.use h1 hn, h2⟩
/-- a list at a, its array at b, holding the objects as -/
def xLi (D : va_G) (X : xH) (a b cap : Nat) (as : List Nat) : Prop := ∃ (mo : Int32) (f : Nat → Option Nat), X a = some (.inr (7, [.int mo, .ref b, .int (nI as.length)])) ∧ X b = some (.inl (D.1 101, cap, .inr (.inr (.inr (.inr f))))) ∧ as.length ≤ cap ∧ cap ≤ 200 ∧ (cap = 0 → b = D.2 200 1) ∧ ∀ i, i < as.length → f i = some (as.getD i 0)
theorem xLi.keep {D : va_G} {X X' : xH} {S : List Nat} {a b cap : Nat} {as : List Nat} (h : xLi D X a b cap as) (hf : xFr S X X') (ha : a ∉ S) (hb : b ∉ S) : xLi D X' a b cap as := by
  obtain ⟨mo, f, h1, h2, h3⟩ := h
  exact ⟨mo, f, hf.use h1 ha, hf.use h2 hb, h3⟩
/-- how a full list of room c grows -/
def nx (c : Nat) : Nat := if c = 0 then 10 else c + (if 1 < c / 2 then c / 2 else 1)
theorem nI_one (n : Nat) : nI n + 1 = nI (n + 1) := nI_1 n
theorem nI_dec {n : Nat} (h : 0 < n) : nI n - 1 = nI (n - 1) := by
  obtain ⟨k, rfl⟩ : ∃ k, n = k + 1 := ⟨n - 1, by omega⟩
  exact nI_pred k
set_option maxRecDepth 100000 in
set_option maxHeartbeats 4000000 in
theorem c_AL_set {l : Launch} {D : va_G} {H0 : Heap} {X : xH} {a b cap j q v n : Nat} {v0 : Value} {f : Nat → Option Nat} (ha : X a = some (.inr (7, [v0, .ref b, .int (nI n)]))) (hb : X b = some (.inl (D.1 101, cap, .inr (.inr (.inr (.inr f)))))) (hj : j < n) (hn : n ≤ cap) (hc : cap < 2 ^ 31) (hf : f j = some q) (hv : xOb X v) : xMet l D H0 y_AL_set b_AL_set 4 (some (.object "java/lang/Object")) [] 2 0 0 [.ref a, .int (nI j), .ref v] X (fun o X' => o = .inl (some (.ref q)) ∧ X' = xup X b (.inl (D.1 101, cap, .inr (.inr (.inr (.inr (va_up f j (some v)))))))) := by
  refine ⟨[some (.ref a), some (.int (nI j)), some (.ref v), none], rfl, Nat.le_of_ble_eq_true rfl, fun E hD hH hl _ C => ?_⟩
  subst hD
  subst hH
  subst hl
  refine xr_iload_n C d_AL_set_0 1 rfl rfl ?_
  refine xr_aload_n C d_AL_set_1 2 rfl rfl ?_
  refine xr_get C K_AL 2 d_AL_set_2 5 rfl q_58 (Or.inl rfl) rfl (by first | assumption | exact xup_self | exact (xup_ne (by assumption)).trans (by assumption) | exact (xup_ne (Ne.symm (by assumption))).trans (by assumption) | exact (xup_ne (by assumption)).trans xup_self | exact (xup_ne (Ne.symm (by assumption))).trans xup_self) rfl ?_
  refine xr_callS C (c_OB_checkIndex hj (by omega)) k_OB_checkIndex d_AL_set_5 8 rfl (Or.inl q_282) s_OB_checkIndex in_OB_checkIndex h_OB_checkIndex rfl ⟨Nat.le_of_ble_eq_true rfl, Nat.le_of_ble_eq_true rfl, Nat.le_of_ble_eq_true rfl⟩ (by omega) (by omega) (fun v X' hP => ?_) (fun _ _ h => absurd h.1 (by simp))
  obtain ⟨h1, rfl⟩ := hP
  cases h1
  refine xr_pop C d_AL_set_8 9 rfl rfl ?_
  refine xr_aload_n C d_AL_set_9 10 rfl rfl ?_
  refine xr_iload_n C d_AL_set_10 11 rfl rfl ?_
  refine xr_callV C (c_AL_elementData ha hb (by omega) hc hf) k_AL_elementData d_AL_set_11 14 rfl (by first | assumption | exact xup_self | exact (xup_ne (by assumption)).trans (by assumption) | exact (xup_ne (Ne.symm (by assumption))).trans (by assumption) | exact (xup_ne (by assumption)).trans xup_self | exact (xup_ne (Ne.symm (by assumption))).trans xup_self) rfl (Or.inl q_288) v_AL_elementData e_AL_elementData h_AL_elementData rfl ⟨Nat.le_of_ble_eq_true rfl, Nat.le_of_ble_eq_true rfl, Nat.le_of_ble_eq_true rfl⟩ (by omega) (by omega) (fun v X' hP => ?_) (fun _ _ h => absurd h.1 (by simp))
  obtain ⟨h1, rfl⟩ := hP
  cases h1
  refine xr_astore_n C d_AL_set_14 15 rfl rfl rfl ?_
  refine xr_aload_n C d_AL_set_15 16 rfl rfl ?_
  refine xr_get C K_AL 1 d_AL_set_16 19 rfl q_57 (Or.inl rfl) rfl (by first | assumption | exact xup_self | exact (xup_ne (by assumption)).trans (by assumption) | exact (xup_ne (Ne.symm (by assumption))).trans (by assumption) | exact (xup_ne (by assumption)).trans xup_self | exact (xup_ne (Ne.symm (by assumption))).trans xup_self) rfl ?_
  refine xr_iload_n C d_AL_set_19 20 rfl rfl ?_
  refine xr_aload_n C d_AL_set_20 21 rfl rfl ?_
  obtain ⟨ci, vs, r, o1, o2, o3⟩ := hv
  refine xr_aast C d_AL_set_21 22 rfl hb rfl (by omega) hc o1 o2 o3 ?_
  refine xr_aload_n C d_AL_set_22 23 rfl rfl ?_
  exact xr_aret C d_AL_set_23 (Or.inl ⟨_, rfl⟩) (by omega) (by omega) ⟨rfl, rfl⟩
set_option maxRecDepth 100000 in
set_option maxHeartbeats 4000000 in
theorem c_AL_fastRemove {l : Launch} {D : va_G} {H0 : Heap} {X : xH} {a b cap j n : Nat} {mo : Int32} {f : Nat → Option Nat} (ha : X a = some (.inr (7, [.int mo, .ref b, .int (nI n)]))) (hb : X b = some (.inl (D.1 101, cap, .inr (.inr (.inr (.inr f)))))) (hj : j < n) (hn : n ≤ cap) (hc : cap < 2 ^ 31) (hel : ∀ i, i < n → ∀ q, f i = some q → xOb X q) : xMet l D H0 y_AL_fastRemove b_AL_fastRemove 4 none [] 0 0 0 [.ref a, .ref b, .int (nI j)] X (fun o X' => o = .inl none ∧ ∃ (mo' : Int32) (f' : Nat → Option Nat), X' = xup (xup X a (.inr (7, [.int mo', .ref b, .int (nI (n - 1))]))) b (.inl (D.1 101, cap, .inr (.inr (.inr (.inr f'))))) ∧ ∀ i, i < n - 1 → f' i = if i < j then f i else f (i + 1)) := by
  refine ⟨[some (.ref a), some (.ref b), some (.int (nI j)), none], rfl, Nat.le_of_ble_eq_true rfl, fun E hD hH hl _ C => ?_⟩
  subst hD
  subst hH
  subst hl
  have hab : a ≠ b := xne ha hb (by intro h; cases h)
  refine xr_aload_n C d_AL_fastRemove_0 1 rfl rfl ?_
  refine xr_dup C d_AL_fastRemove_1 2 rfl rfl ?_
  refine xr_get C K_AL 0 d_AL_fastRemove_2 5 rfl q_60 (Or.inr q_61) rfl (by first | assumption | exact xup_self | exact (xup_ne (by assumption)).trans (by assumption) | exact (xup_ne (Ne.symm (by assumption))).trans (by assumption) | exact (xup_ne (by assumption)).trans xup_self | exact (xup_ne (Ne.symm (by assumption))).trans xup_self) rfl ?_
  refine xr_iconst (v := 1) C d_AL_fastRemove_5 6 rfl (by decide) ?_
  refine xr_iadd C d_AL_fastRemove_6 7 rfl ?_
  refine xr_put C K_AL 0 d_AL_fastRemove_7 10 rfl q_60 (Or.inr q_61) rfl rfl rfl rfl (by first | assumption | exact xup_self | exact (xup_ne (by assumption)).trans (by assumption) | exact (xup_ne (Ne.symm (by assumption))).trans (by assumption) | exact (xup_ne (by assumption)).trans xup_self | exact (xup_ne (Ne.symm (by assumption))).trans xup_self) rfl rfl ?_
  refine xr_aload_n C d_AL_fastRemove_10 11 rfl rfl ?_
  refine xr_get C K_AL 2 d_AL_fastRemove_11 14 rfl q_58 (Or.inl rfl) rfl (by first | assumption | exact xup_self | exact (xup_ne (by assumption)).trans (by assumption) | exact (xup_ne (Ne.symm (by assumption))).trans (by assumption) | exact (xup_ne (by assumption)).trans xup_self | exact (xup_ne (Ne.symm (by assumption))).trans xup_self) rfl ?_
  refine xr_iconst (v := 1) C d_AL_fastRemove_14 15 rfl (by decide) ?_
  refine xr_isub C d_AL_fastRemove_15 16 rfl ?_
  refine xr_toi (nI_dec (by omega)) ?_
  refine xr_dup C d_AL_fastRemove_16 17 rfl rfl ?_
  refine xr_istore_n C d_AL_fastRemove_17 18 rfl rfl rfl ?_
  refine xr_iload_n C d_AL_fastRemove_18 19 rfl rfl ?_
  refine xr_icmp_le C d_AL_fastRemove_19 22 34 rfl (by decide) (fun h19 => ?_) (fun h19 => ?_)
  · have hjn : n - 1 ≤ j := (nI_leI (by omega) (by omega)).mp h19
    refine xr_aload_n C d_AL_fastRemove_34 35 rfl rfl ?_
    refine xr_aload_n C d_AL_fastRemove_35 36 rfl rfl ?_
    refine xr_iload_n C d_AL_fastRemove_36 37 rfl rfl ?_
    refine xr_dup_x1 C d_AL_fastRemove_37 38 rfl rfl rfl ?_
    refine xr_put C K_AL 2 d_AL_fastRemove_38 41 rfl q_58 (Or.inl rfl) rfl rfl rfl rfl (by first | assumption | exact xup_self | exact (xup_ne (by assumption)).trans (by assumption) | exact (xup_ne (Ne.symm (by assumption))).trans (by assumption) | exact (xup_ne (by assumption)).trans xup_self | exact (xup_ne (Ne.symm (by assumption))).trans xup_self) rfl rfl ?_
    refine xr_null C d_AL_fastRemove_41 42 rfl ?_
    refine xr_aastN C d_AL_fastRemove_42 43 rfl (N := cap) ((xup_ne (Ne.symm hab)).trans ((xup_ne (Ne.symm hab)).trans hb)) rfl (by omega) hc ?_
    refine xr_vret C d_AL_fastRemove_43 (by omega) (by omega) ⟨rfl, mo + 1, va_up f (n - 1) none, ?_, fun i hi => ?_⟩
    · rw [xup_up]
      rfl
    · rw [if_pos (by omega)]
      exact va_up_ne _ _ (by omega)
  · have hjn : j < n - 1 := by
      rcases Nat.lt_or_ge j (n - 1) with h | h
      · exact h
      · exact absurd ((nI_leI (by omega) (by omega)).mpr h) h19
    refine xr_aload_n C d_AL_fastRemove_22 23 rfl rfl ?_
    refine xr_iload_n C d_AL_fastRemove_23 24 rfl rfl ?_
    refine xr_iconst (v := 1) C d_AL_fastRemove_24 25 rfl (by decide) ?_
    refine xr_iadd C d_AL_fastRemove_25 26 rfl ?_
    refine xr_aload_n C d_AL_fastRemove_26 27 rfl rfl ?_
    refine xr_iload_n C d_AL_fastRemove_27 28 rfl rfl ?_
    refine xr_iload_n C d_AL_fastRemove_28 29 rfl rfl ?_
    refine xr_iload_n C d_AL_fastRemove_29 30 rfl rfl ?_
    refine xr_isub C d_AL_fastRemove_30 31 rfl ?_
    refine xr_toi (pk_sub (by omega)) ?_
    refine xG.eqS (show _ = [Value.int (nI (n - 1 - j)), Value.int (nI j), Value.ref b, Value.int (nI (j + 1)), Value.ref b] from by rw [nI_one]) ?_
    refine xr_copyq C d_AL_fastRemove_31 34 rfl q_301 w_copy ((xup_ne (Ne.symm hab)).trans hb) ((xup_ne (Ne.symm hab)).trans hb) (by omega) (by omega) hc hc (by omega) (Nat.le_of_ble_eq_true rfl) (fun i hi q hq => ?_) ?_
    · obtain ⟨ci, vs, r, o1, o2, o3⟩ := hel (j + 1 + i) (by omega) q hq
      by_cases hqa : q = a
      · subst hqa
        exact ⟨7, _, _, xup_self, rfl, (by cases ha.symm.trans o1; exact (by cases o2; exact o3))⟩
      · exact ⟨ci, vs, r, (xup_ne hqa).trans o1, o2, o3⟩
    refine xr_aload_n C d_AL_fastRemove_34 35 rfl rfl ?_
    refine xr_aload_n C d_AL_fastRemove_35 36 rfl rfl ?_
    refine xr_iload_n C d_AL_fastRemove_36 37 rfl rfl ?_
    refine xr_dup_x1 C d_AL_fastRemove_37 38 rfl rfl rfl ?_
    refine xr_put C K_AL 2 d_AL_fastRemove_38 41 rfl q_58 (Or.inl rfl) rfl rfl rfl rfl (by first | assumption | exact xup_self | exact (xup_ne (by assumption)).trans (by assumption) | exact (xup_ne (Ne.symm (by assumption))).trans (by assumption) | exact (xup_ne (by assumption)).trans xup_self | exact (xup_ne (Ne.symm (by assumption))).trans xup_self) rfl rfl ?_
    refine xr_null C d_AL_fastRemove_41 42 rfl ?_
    refine xr_aastN C d_AL_fastRemove_42 43 rfl (N := cap) ((xup_ne (Ne.symm hab)).trans xup_self) rfl (by omega) hc ?_
    refine xr_vret C d_AL_fastRemove_43 (by omega) (by omega) ⟨rfl, mo + 1, va_up (va_cpy f f (j + 1) j (n - 1 - j)) (n - 1) none, ?_, fun i hi => ?_⟩
    · rw [xup_comm (Ne.symm hab), xup_up, xup_up]
      rfl
    · rw [va_up_ne _ _ (by omega)]
      by_cases hij : i < j
      · rw [if_pos hij]
        exact pk_cpy_out (Or.inl hij)
      · rw [if_neg hij, pk_cpy_in (by omega) (by omega)]
        congr 1
        omega
