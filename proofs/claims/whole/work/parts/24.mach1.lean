/-! Machines. -/
def sD (ss : List Ss) (i : Nat) : Ss := ss.getD i (0, 0, 0, 0, [])
def imSs (I : Nat → Option Imm) (as : List Nat) (ss : List Ss) : Prop := as.length = ss.length ∧ ∀ i, i < as.length → imS I (as.getD i 0) (sD ss i)
def okS (ss : List Ss) : Prop := ss.length ≤ 16 ∧ ∀ s ∈ ss, s.2.2.2.2.length ≤ 104
def xz0 (X : xH) (b : Nat) : Prop := ∃ v, X b = some v ∧ xz v
theorem xz0.keep {S : List Nat} {X X' : xH} {b : Nat} (h : xz0 X b) (hf : xFr S X X') : xz0 X' b := by
  obtain ⟨v, h1, h2⟩ := h
  exact ⟨v, hf.1 b v h1 (Or.inr h2), h2⟩
def sepB (X : xH) (b1 b2 : Nat) : Prop := b1 ≠ b2 ∨ xz0 X b1
theorem sepB.symm {X : xH} {b1 b2 : Nat} (h : sepB X b1 b2) : sepB X b2 b1 := by
  rcases Nat.decEq b1 b2 with e | e
  · exact Or.inl (Ne.symm e)
  · rcases h with h | h
    · exact absurd e h
    · exact Or.inr (e ▸ h)
theorem sepB.keep {S : List Nat} {X X' : xH} {b1 b2 : Nat} (h : sepB X b1 b2) (hf : xFr S X X') : sepB X' b1 b2 := h.imp id (fun h => h.keep hf)
/-- one of the two arrays is new -/
theorem sepB.new {S : List Nat} {X X' : xH} {b1 b1' b2 : Nat} {v : va_E} (h : sepB X b1 b2) (hf : xFr S X X') (hn : b1' = b1 ∨ X b1' = none) (h2 : X b2 = some v) : sepB X' b1' b2 := by
  rcases hn with e | e
  · rw [e]
    exact h.keep hf
  · exact Or.inl (Ne.symm (xne_none h2 e))
theorem xFr.usez {S : List Nat} {X X' : xH} {q : Nat} {v : va_E} (h : xFr S X X') (hq : X q = some v) (hn : q ∉ S ∨ xz0 X q) : X' q = some v := by
  rcases hn with hn | ⟨w, h1, h2⟩
  · exact h.use hq hn
  · cases hq.symm.trans h1
    exact h.1 q v hq (Or.inr h2)
theorem xLi.keepz {D : va_G} {X X' : xH} {S : List Nat} {a b cap : Nat} {as : List Nat} (h : xLi D X a b cap as) (hf : xFr S X X') (ha : a ∉ S) (hb : b ∉ S ∨ xz0 X b) : xLi D X' a b cap as := by
  obtain ⟨mo, f, h1, h2, h3⟩ := h
  exact ⟨mo, f, hf.use h1 ha, hf.usez h2 hb, h3⟩
theorem xMap.keepz {D : va_G} {X X' : xH} {I : Nat → Option Imm} {S : List Nat} {mp l b cap : Nat} {as : List Nat} {es : List Es} (h : xMap D X I mp l b cap as es) (hf : xFr S X X') (h1 : mp ∉ S) (h2 : l ∉ S) (h3 : b ∉ S ∨ xz0 X b) : xMap D X' I mp l b cap as es := ⟨hf.use h.1 h1, h.2.1.keepz hf h2 h3, h.2.2⟩
theorem xMap.le {D : va_G} {X : xH} {I I' : Nat → Option Imm} {mp l b cap : Nat} {as : List Nat} {es : List Es} (h : xMap D X I mp l b cap as es) (hl : imLe I I') : xMap D X I' mp l b cap as es := ⟨h.1, h.2.1, h.2.2.1.le hl, h.2.2.2⟩
theorem imSs.le {I I' : Nat → Option Imm} {as : List Nat} {ss : List Ss} (h : imSs I as ss) (hl : imLe I I') : imSs I' as ss := ⟨h.1, fun i hi => (h.2 i hi).le hl⟩
theorem imSs.ob {D : va_G} {X : xH} {I : Nat → Option Imm} {as : List Nat} {ss : List Ss} (h : imSs I as ss) (hI : xIm D X I) : ∀ q ∈ as, xOb X q := fun q hq => by
  obtain ⟨i, hi, rfl⟩ := mem_getD hq
  exact (h.2 i hi).ob hI
theorem imSs.set {I : Nat → Option Imm} {as : List Nat} {es : List Ss} {j q : Nat} {e : Ss} (h : imSs I as es) (hj : j < es.length) (hq : imS I q e) : imSs I (as.set j q) (es.set j e) := by
  have hl := h.1
  refine ⟨by rw [List.length_set, List.length_set, hl], fun i hi => ?_⟩
  rw [List.length_set] at hi
  unfold sD
  rw [getDg_set (by omega), getDg_set hj]
  by_cases h2 : i = j
  · rw [if_pos h2, if_pos h2]
    exact hq
  · rw [if_neg h2, if_neg h2]
    exact h.2 i hi
theorem imSs.erase {I : Nat → Option Imm} {as : List Nat} {es : List Ss} {j : Nat} (h : imSs I as es) (hj : j < es.length) : imSs I (as.eraseIdx j) (es.eraseIdx j) := by
  have hl := h.1
  refine ⟨by rw [List.length_eraseIdx_of_lt (by omega), List.length_eraseIdx_of_lt hj, hl], fun i hi => ?_⟩
  rw [List.length_eraseIdx_of_lt (by omega)] at hi
  unfold sD
  rw [getDg_erase, getDg_erase]
  by_cases h2 : i < j
  · rw [if_pos h2, if_pos h2]
    exact h.2 i (by omega)
  · rw [if_neg h2, if_neg h2]
    exact h.2 (i + 1) (by omega)
theorem getDg_snoc {α : Type} {d : α} {as : List α} {v : α} {i : Nat} (hi : i < as.length + 1) : (as ++ [v]).getD i d = if i < as.length then as.getD i d else v := by
  by_cases h : i < as.length
  · rw [if_pos h, List.getD_eq_getElem?_getD, List.getD_eq_getElem?_getD, List.getElem?_append_left h]
  · rw [if_neg h, List.getD_eq_getElem?_getD, List.getElem?_append_right (by omega), show i - as.length = 0 by omega]
    rfl
theorem imSs.snoc {I : Nat → Option Imm} {as : List Nat} {es : List Ss} {q : Nat} {e : Ss} (h : imSs I as es) (hq : imS I q e) : imSs I (as ++ [q]) (es ++ [e]) := by
  have hl := h.1
  refine ⟨by rw [List.length_append, List.length_append, hl]; rfl, fun i hi => ?_⟩
  rw [List.length_append, List.length_singleton] at hi
  unfold sD
  rw [getDg_snoc hi, getDg_snoc (by omega)]
  by_cases h2 : i < as.length
  · rw [if_pos h2, if_pos (by omega)]
    exact h.2 i h2
  · rw [if_neg h2, if_neg (by omega)]
    exact hq
theorem sD_mem {ss : List Ss} {i : Nat} (h : i < ss.length) : sD ss i ∈ ss := by
  unfold sD
  rw [List.getD_eq_getElem?_getD, List.getElem?_eq_getElem h]
  exact List.getElem_mem h
/-- a machine at a: its sessions in the list at ls, its map at mp -/
def xMac (D : va_G) (X : xH) (I : Nat → Option Imm) (a ls bs cs mp la be ce : Nat) (as1 as2 : List Nat) (ss : List Ss) (es : List Es) (g : Int32) : Prop :=
  X a = some (.inr (1, [.ref ls, .ref mp, .int g])) ∧ xLi D X ls bs cs as1 ∧ imSs I as1 ss ∧ okS ss ∧ xMap D X I mp la be ce as2 es ∧ ls ≠ la ∧ sepB X bs be
def fsn : List Ss → Int32 → Nat
  | [], _ => 0
  | s :: ss, n => if s.1 = n then 0 else fsn ss n + 1
theorem fsn_le (n : Int32) : ∀ ss : List Ss, fsn ss n ≤ ss.length
  | [] => Nat.le_refl _
  | e :: es => by
    have := fsn_le n es
    unfold fsn
    rw [List.length_cons]
    split <;> omega
theorem fsn_at {n : Int32} : ∀ {es : List Ss} {i : Nat}, i ≤ es.length → (∀ j, j < i → ¬ (sD es j).1 = n) → (i < es.length → (sD es i).1 = n) → fsn es n = i
  | [], i, hi, _, _ => by
    rw [List.length_nil] at hi
    show 0 = i
    omega
  | e :: es, 0, _, _, h => by
    have h1 : e.1 = n := h (Nat.succ_pos _)
    unfold fsn
    rw [if_pos h1]
  | e :: es, i + 1, hi, ha, h => by
    have h0 : ¬ e.1 = n := ha 0 (Nat.succ_pos _)
    have ih := fsn_at (n := n) (es := es) (i := i) (by rw [List.length_cons] at hi; omega) (fun j hj => ha (j + 1) (by omega)) (fun hl => h (by rw [List.length_cons]; omega))
    unfold fsn
    rw [if_neg h0, ih]
def ixS (ss : List Ss) (n : Int32) : Int32 := if fsn ss n < ss.length then nI (fsn ss n) else -1
/-- the first of the longest unused of the first n + 1 -/
def luf (ss : List Ss) : Nat → Nat
  | 0 => 0
  | n + 1 => if (sD ss (n + 1)).2.1 < (sD ss (luf ss n)).2.1 then n + 1 else luf ss n
theorem luf_le (ss : List Ss) : ∀ n, luf ss n ≤ n
  | 0 => Nat.le_refl _
  | n + 1 => by
    have := luf_le ss n
    unfold luf
    split <;> omega
def lu (ss : List Ss) : Nat := luf ss (ss.length - 1)
def opS (ss : List Ss) (p : Int32) : List Ss := (if 16 ≤ ss.length then ss.eraseIdx (lu ss) else ss) ++ [(p, p, 0, p, [])]
set_option maxRecDepth 100000 in
set_option maxHeartbeats 4000000 in
theorem c_Ma_takes {l : Launch} {D : va_G} {H0 : Heap} {X : xH} {a : Nat} {v0 v1 : Value} {g z : Int32} (ha : X a = some (.inr (1, [v0, v1, .int g]))) : xMet l D H0 y_Ma_takes b_Ma_takes 2 (some .boolean) [] 0 0 0 [.ref a, .int z] X (fun o X' => o = .inl (some (.int (if g < z ∧ z ≤ 1000000 then 1 else 0))) ∧ X' = X) := by
  refine ⟨[some (.ref a), some (.int z)], rfl, Nat.le_of_ble_eq_true rfl, fun E hD hH hl _ C => ?_⟩
  subst hD
  subst hH
  subst hl
  have no : ¬ (g < z ∧ z ≤ 1000000) → xG E X 0 0 18 [some (.ref a), some (.int z)] [] := by
    intro h
    refine xr_iconst (v := 0) C d_Ma_takes_18 19 rfl (by decide) ?_
    exact xr_zret C d_Ma_takes_19 rfl (by omega) (by omega) ⟨by rw [if_neg h], rfl⟩
  refine xr_iload_n C d_Ma_takes_0 1 rfl rfl ?_
  refine xr_aload_n C d_Ma_takes_1 2 rfl rfl ?_
  refine xr_get C K_Ma 2 d_Ma_takes_2 5 rfl q_92 (Or.inl rfl) rfl (by first | assumption | exact xup_self | exact (xup_ne (by assumption)).trans (by assumption) | exact (xup_ne (Ne.symm (by assumption))).trans (by assumption) | exact (xup_ne (by assumption)).trans xup_self | exact (xup_ne (Ne.symm (by assumption))).trans xup_self) rfl ?_
  refine xr_icmp_le C d_Ma_takes_5 8 18 rfl (by decide) (fun h => no (fun q => absurd h (Int32.not_le.mpr q.1))) (fun h5 => ?_)
  refine xr_iload_n C d_Ma_takes_8 9 rfl rfl ?_
  refine xr_ldc (v := 1000000) C d_Ma_takes_9 11 rfl q_264 ?_
  refine xr_icmp_gt C d_Ma_takes_11 14 18 rfl (by decide) (fun h => no (fun q => absurd q.2 (Int32.not_le.mpr h))) (fun h11 => ?_)
  refine xr_iconst (v := 1) C d_Ma_takes_14 15 rfl (by decide) ?_
  refine xr_goto C d_Ma_takes_15 19 (by decide) ?_
  exact xr_zret C d_Ma_takes_19 rfl (by omega) (by omega) ⟨by rw [if_pos ⟨Int32.not_le.mp h5, Int32.not_lt.mp h11⟩], rfl⟩
set_option maxRecDepth 100000 in
set_option maxHeartbeats 4000000 in
theorem c_Ma_indexOfSession {l : Launch} {D : va_G} {H0 : Heap} {X : xH} {a ls bs cs mp la be ce : Nat} {as1 as2 : List Nat} {ss : List Ss} {es : List Es} {g : Int32} {I : Nat → Option Imm} (hI : xIm D X I) (hA : xMac D X I a ls bs cs mp la be ce as1 as2 ss es g) {z : Int32} : xMet l D H0 y_Ma_indexOfSession b_Ma_indexOfSession 3 (some .int) [] 3 0 0 [.ref a, .int z] X (fun o X' => o = .inl (some (.int (ixS ss z))) ∧ X' = X) := by
  obtain ⟨ha, hL, hE, hok, hM, hll, hbb⟩ := id hA
  obtain ⟨vl, hl⟩ := hL.ob
  have hlen := hE.1
  have hle := hL.len
  have hok1 := hok.1
  refine ⟨[some (.ref a), some (.int z), none], rfl, Nat.le_of_ble_eq_true rfl, fun E hD hH hl _ C => ?_⟩
  subst hD
  subst hH
  subst hl
  have loop : ∀ (k i : Nat), i + k = ss.length → (∀ j, j < i → ¬ (sD ss j).1 = z) → xG E X 0 0 2 [some (.ref a), some (.int z), some (.int (nI i))] [] := by
    intro k
    induction k with
    | zero =>
      intro i hi h1
      have e : i = ss.length := by omega
      refine xr_iload_n C d_Ma_indexOfSession_2 3 rfl rfl ?_
      refine xr_aload_n C d_Ma_indexOfSession_3 4 rfl rfl ?_
      refine xr_get C K_Ma 0 d_Ma_indexOfSession_4 7 rfl q_88 (Or.inl rfl) rfl (by first | assumption | exact xup_self | exact (xup_ne (by assumption)).trans (by assumption) | exact (xup_ne (Ne.symm (by assumption))).trans (by assumption) | exact (xup_ne (by assumption)).trans xup_self | exact (xup_ne (Ne.symm (by assumption))).trans xup_self) rfl ?_
      refine xr_callV C (l_size hL) k_AL_size d_Ma_indexOfSession_7 10 rfl (by first | assumption | exact xup_self | exact (xup_ne (by assumption)).trans (by assumption) | exact (xup_ne (Ne.symm (by assumption))).trans (by assumption) | exact (xup_ne (by assumption)).trans xup_self | exact (xup_ne (Ne.symm (by assumption))).trans xup_self) rfl (Or.inl q_270) v_AL_size e_AL_size h_AL_size rfl ⟨Nat.le_of_ble_eq_true rfl, Nat.le_of_ble_eq_true rfl, Nat.le_of_ble_eq_true rfl⟩ (by omega) (by omega) (fun v9 X hP => ?_) (fun _ _ h => absurd h.1 (by simp))
      obtain ⟨h1, rfl⟩ := hP
      cases h1
      refine xr_icmp_ge C d_Ma_indexOfSession_10 13 39 rfl (by decide) (fun _ => ?_) (fun h => absurd (nI_le (show as1.length ≤ i by omega) (by omega)) h)
      refine xr_iconst (v := (-1)) C d_Ma_indexOfSession_39 40 rfl (by decide) ?_
      exact xr_iret C d_Ma_indexOfSession_40 (by omega) (by omega) ⟨by unfold ixS; rw [fsn_at (i := i) (by omega) h1 (fun h => absurd h (by omega)), if_neg (by omega)], rfl⟩
    | succ k ih =>
      intro i hi h1
      have i1 : i < as1.length := by omega
      obtain ⟨q, k1, k2, k3⟩ := (hE.2 i i1).use hI
      refine xr_iload_n C d_Ma_indexOfSession_2 3 rfl rfl ?_
      refine xr_aload_n C d_Ma_indexOfSession_3 4 rfl rfl ?_
      refine xr_get C K_Ma 0 d_Ma_indexOfSession_4 7 rfl q_88 (Or.inl rfl) rfl (by first | assumption | exact xup_self | exact (xup_ne (by assumption)).trans (by assumption) | exact (xup_ne (Ne.symm (by assumption))).trans (by assumption) | exact (xup_ne (by assumption)).trans xup_self | exact (xup_ne (Ne.symm (by assumption))).trans xup_self) rfl ?_
      refine xr_callV C (l_size hL) k_AL_size d_Ma_indexOfSession_7 10 rfl (by first | assumption | exact xup_self | exact (xup_ne (by assumption)).trans (by assumption) | exact (xup_ne (Ne.symm (by assumption))).trans (by assumption) | exact (xup_ne (by assumption)).trans xup_self | exact (xup_ne (Ne.symm (by assumption))).trans xup_self) rfl (Or.inl q_270) v_AL_size e_AL_size h_AL_size rfl ⟨Nat.le_of_ble_eq_true rfl, Nat.le_of_ble_eq_true rfl, Nat.le_of_ble_eq_true rfl⟩ (by omega) (by omega) (fun v9 X hP => ?_) (fun _ _ h => absurd h.1 (by simp))
      obtain ⟨h1, rfl⟩ := hP
      cases h1
      refine xr_icmp_ge C d_Ma_indexOfSession_10 13 39 rfl (by decide) (fun h => absurd h (nI_ge i1 (by omega))) (fun _ => ?_)
      refine xr_aload_n C d_Ma_indexOfSession_13 14 rfl rfl ?_
      refine xr_get C K_Ma 0 d_Ma_indexOfSession_14 17 rfl q_88 (Or.inl rfl) rfl (by first | assumption | exact xup_self | exact (xup_ne (by assumption)).trans (by assumption) | exact (xup_ne (Ne.symm (by assumption))).trans (by assumption) | exact (xup_ne (by assumption)).trans xup_self | exact (xup_ne (Ne.symm (by assumption))).trans xup_self) rfl ?_
      refine xr_iload_n C d_Ma_indexOfSession_17 18 rfl rfl ?_
      refine xr_callV C (l_get hL i1) k_AL_get d_Ma_indexOfSession_18 21 rfl (by first | assumption | exact xup_self | exact (xup_ne (by assumption)).trans (by assumption) | exact (xup_ne (Ne.symm (by assumption))).trans (by assumption) | exact (xup_ne (by assumption)).trans xup_self | exact (xup_ne (Ne.symm (by assumption))).trans xup_self) rfl (Or.inl q_278) v_AL_get e_AL_get h_AL_get rfl ⟨Nat.le_of_ble_eq_true rfl, Nat.le_of_ble_eq_true rfl, Nat.le_of_ble_eq_true rfl⟩ (by omega) (by omega) (fun v9 X hP => ?_) (fun _ _ h => absurd h.1 (by simp))
      obtain ⟨h1, rfl⟩ := hP
      cases h1
      refine xr_cast C d_Ma_indexOfSession_21 24 rfl k1 rfl q_292 ?_
      refine xr_get C K_Se 0 d_Ma_indexOfSession_24 27 rfl q_312 (Or.inl rfl) rfl (by first | assumption | exact xup_self | exact (xup_ne (by assumption)).trans (by assumption) | exact (xup_ne (Ne.symm (by assumption))).trans (by assumption) | exact (xup_ne (by assumption)).trans xup_self | exact (xup_ne (Ne.symm (by assumption))).trans xup_self) rfl ?_
      refine xr_iload_n C d_Ma_indexOfSession_27 28 rfl rfl ?_
      refine xr_icmp_ne C d_Ma_indexOfSession_28 31 33 rfl (by decide) (fun j31 => ?_) (fun j31 => ?_)
      · refine xr_iinc (v := 1) C d_Ma_indexOfSession_33 36 rfl rfl rfl rfl (by decide) ?_
        refine xr_goto C d_Ma_indexOfSession_36 2 (by decide) ?_
        refine xG.eqL (show _ = [some (Value.ref a), some (Value.int z), some (Value.int (nI (i + 1)))] by rw [← nI_one]; rfl) ?_
        refine ih (i + 1) (by omega) (fun j hj => ?_)
        by_cases e : j = i
        · rw [e]
          exact j31
        · exact h1 j (by omega)
      · refine xr_iload_n C d_Ma_indexOfSession_31 32 rfl rfl ?_
        exact xr_iret C d_Ma_indexOfSession_32 (by omega) (by omega) ⟨by unfold ixS; rw [fsn_at (i := i) (by omega) h1 (fun _ => j31), if_pos (by omega)], rfl⟩
  refine xr_iconst (v := 0) C d_Ma_indexOfSession_0 1 rfl (by decide) ?_
  refine xr_istore_n C d_Ma_indexOfSession_1 2 rfl rfl rfl ?_
  exact loop ss.length 0 (by omega) (fun j hj => absurd hj (Nat.not_lt_zero _))
set_option maxRecDepth 100000 in
set_option maxHeartbeats 4000000 in
theorem c_Ma_longestUnused {l : Launch} {D : va_G} {H0 : Heap} {X : xH} {a ls bs cs mp la be ce : Nat} {as1 as2 : List Nat} {ss : List Ss} {es : List Es} {g : Int32} {I : Nat → Option Imm} (hI : xIm D X I) (hA : xMac D X I a ls bs cs mp la be ce as1 as2 ss es g) (hne : 0 < ss.length) : xMet l D H0 y_Ma_longestUnused b_Ma_longestUnused 3 (some .int) [] 3 0 0 [.ref a] X (fun o X' => o = .inl (some (.int (nI (lu ss)))) ∧ X' = X) := by
  obtain ⟨ha, hL, hE, hok, hM, hll, hbb⟩ := id hA
  obtain ⟨vl, hl⟩ := hL.ob
  have hlen := hE.1
  have hle := hL.len
  have hok1 := hok.1
  refine ⟨[some (.ref a), none, none], rfl, Nat.le_of_ble_eq_true rfl, fun E hD hH hl _ C => ?_⟩
  subst hD
  subst hH
  subst hl
  have loop : ∀ (k i : Nat), i + 1 + k = ss.length → xG E X 0 0 4 [some (.ref a), some (.int (nI (luf ss i))), some (.int (nI (i + 1)))] [] := by
    intro k
    induction k with
    | zero =>
      intro i hi
      have e : i = ss.length - 1 := by omega
      refine xr_iload_n C d_Ma_longestUnused_4 5 rfl rfl ?_
      refine xr_aload_n C d_Ma_longestUnused_5 6 rfl rfl ?_
      refine xr_get C K_Ma 0 d_Ma_longestUnused_6 9 rfl q_88 (Or.inl rfl) rfl (by first | assumption | exact xup_self | exact (xup_ne (by assumption)).trans (by assumption) | exact (xup_ne (Ne.symm (by assumption))).trans (by assumption) | exact (xup_ne (by assumption)).trans xup_self | exact (xup_ne (Ne.symm (by assumption))).trans xup_self) rfl ?_
      refine xr_callV C (l_size hL) k_AL_size d_Ma_longestUnused_9 12 rfl (by first | assumption | exact xup_self | exact (xup_ne (by assumption)).trans (by assumption) | exact (xup_ne (Ne.symm (by assumption))).trans (by assumption) | exact (xup_ne (by assumption)).trans xup_self | exact (xup_ne (Ne.symm (by assumption))).trans xup_self) rfl (Or.inl q_270) v_AL_size e_AL_size h_AL_size rfl ⟨Nat.le_of_ble_eq_true rfl, Nat.le_of_ble_eq_true rfl, Nat.le_of_ble_eq_true rfl⟩ (by omega) (by omega) (fun v9 X hP => ?_) (fun _ _ h => absurd h.1 (by simp))
      obtain ⟨h1, rfl⟩ := hP
      cases h1
      refine xr_icmp_ge C d_Ma_longestUnused_12 15 54 rfl (by decide) (fun _ => ?_) (fun h => absurd (nI_le (show as1.length ≤ i + 1 by omega) (by omega)) h)
      refine xr_iload_n C d_Ma_longestUnused_54 55 rfl rfl ?_
      exact xr_iret C d_Ma_longestUnused_55 (by omega) (by omega) ⟨by unfold lu; rw [e], rfl⟩
    | succ k ih =>
      intro i hi
      have i1 : i + 1 < as1.length := by omega
      have i2 : luf ss i < as1.length := by
        have := luf_le ss i
        omega
      obtain ⟨q, k1, k2, k3⟩ := (hE.2 (i + 1) i1).use hI
      obtain ⟨q', k1', k2', k3'⟩ := (hE.2 _ i2).use hI
      have t48 : ∀ o : Int32, o = nI (luf ss (i + 1)) → xG E X 0 0 48 [some (.ref a), some (.int o), some (.int (nI (i + 1)))] [] := by
        intro o ho
        subst ho
        refine xr_iinc (v := 1) C d_Ma_longestUnused_48 51 rfl rfl rfl rfl (by decide) ?_
        refine xr_goto C d_Ma_longestUnused_51 4 (by decide) ?_
        refine xG.eqL (show _ = [some (Value.ref a), some (Value.int (nI (luf ss (i + 1)))), some (Value.int (nI (i + 1 + 1)))] by rw [← nI_one (i + 1)]; rfl) ?_
        exact ih (i + 1) (by omega)
      refine xr_iload_n C d_Ma_longestUnused_4 5 rfl rfl ?_
      refine xr_aload_n C d_Ma_longestUnused_5 6 rfl rfl ?_
      refine xr_get C K_Ma 0 d_Ma_longestUnused_6 9 rfl q_88 (Or.inl rfl) rfl (by first | assumption | exact xup_self | exact (xup_ne (by assumption)).trans (by assumption) | exact (xup_ne (Ne.symm (by assumption))).trans (by assumption) | exact (xup_ne (by assumption)).trans xup_self | exact (xup_ne (Ne.symm (by assumption))).trans xup_self) rfl ?_
      refine xr_callV C (l_size hL) k_AL_size d_Ma_longestUnused_9 12 rfl (by first | assumption | exact xup_self | exact (xup_ne (by assumption)).trans (by assumption) | exact (xup_ne (Ne.symm (by assumption))).trans (by assumption) | exact (xup_ne (by assumption)).trans xup_self | exact (xup_ne (Ne.symm (by assumption))).trans xup_self) rfl (Or.inl q_270) v_AL_size e_AL_size h_AL_size rfl ⟨Nat.le_of_ble_eq_true rfl, Nat.le_of_ble_eq_true rfl, Nat.le_of_ble_eq_true rfl⟩ (by omega) (by omega) (fun v9 X hP => ?_) (fun _ _ h => absurd h.1 (by simp))
      obtain ⟨h1, rfl⟩ := hP
      cases h1
      refine xr_icmp_ge C d_Ma_longestUnused_12 15 54 rfl (by decide) (fun h => absurd h (nI_ge i1 (by omega))) (fun _ => ?_)
      refine xr_aload_n C d_Ma_longestUnused_15 16 rfl rfl ?_
      refine xr_get C K_Ma 0 d_Ma_longestUnused_16 19 rfl q_88 (Or.inl rfl) rfl (by first | assumption | exact xup_self | exact (xup_ne (by assumption)).trans (by assumption) | exact (xup_ne (Ne.symm (by assumption))).trans (by assumption) | exact (xup_ne (by assumption)).trans xup_self | exact (xup_ne (Ne.symm (by assumption))).trans xup_self) rfl ?_
      refine xr_iload_n C d_Ma_longestUnused_19 20 rfl rfl ?_
      refine xr_callV C (l_get hL i1) k_AL_get d_Ma_longestUnused_20 23 rfl (by first | assumption | exact xup_self | exact (xup_ne (by assumption)).trans (by assumption) | exact (xup_ne (Ne.symm (by assumption))).trans (by assumption) | exact (xup_ne (by assumption)).trans xup_self | exact (xup_ne (Ne.symm (by assumption))).trans xup_self) rfl (Or.inl q_278) v_AL_get e_AL_get h_AL_get rfl ⟨Nat.le_of_ble_eq_true rfl, Nat.le_of_ble_eq_true rfl, Nat.le_of_ble_eq_true rfl⟩ (by omega) (by omega) (fun v9 X hP => ?_) (fun _ _ h => absurd h.1 (by simp))
      obtain ⟨h1, rfl⟩ := hP
      cases h1
      refine xr_cast C d_Ma_longestUnused_23 26 rfl k1 rfl q_292 ?_
      refine xr_get C K_Se 1 d_Ma_longestUnused_26 29 rfl q_315 (Or.inl rfl) rfl (by first | assumption | exact xup_self | exact (xup_ne (by assumption)).trans (by assumption) | exact (xup_ne (Ne.symm (by assumption))).trans (by assumption) | exact (xup_ne (by assumption)).trans xup_self | exact (xup_ne (Ne.symm (by assumption))).trans xup_self) rfl ?_
      refine xr_aload_n C d_Ma_longestUnused_29 30 rfl rfl ?_
      refine xr_get C K_Ma 0 d_Ma_longestUnused_30 33 rfl q_88 (Or.inl rfl) rfl (by first | assumption | exact xup_self | exact (xup_ne (by assumption)).trans (by assumption) | exact (xup_ne (Ne.symm (by assumption))).trans (by assumption) | exact (xup_ne (by assumption)).trans xup_self | exact (xup_ne (Ne.symm (by assumption))).trans xup_self) rfl ?_
      refine xr_iload_n C d_Ma_longestUnused_33 34 rfl rfl ?_
      refine xr_callV C (l_get hL i2) k_AL_get d_Ma_longestUnused_34 37 rfl (by first | assumption | exact xup_self | exact (xup_ne (by assumption)).trans (by assumption) | exact (xup_ne (Ne.symm (by assumption))).trans (by assumption) | exact (xup_ne (by assumption)).trans xup_self | exact (xup_ne (Ne.symm (by assumption))).trans xup_self) rfl (Or.inl q_278) v_AL_get e_AL_get h_AL_get rfl ⟨Nat.le_of_ble_eq_true rfl, Nat.le_of_ble_eq_true rfl, Nat.le_of_ble_eq_true rfl⟩ (by omega) (by omega) (fun v9 X hP => ?_) (fun _ _ h => absurd h.1 (by simp))
      obtain ⟨h1, rfl⟩ := hP
      cases h1
      refine xr_cast C d_Ma_longestUnused_37 40 rfl k1' rfl q_292 ?_
      refine xr_get C K_Se 1 d_Ma_longestUnused_40 43 rfl q_315 (Or.inl rfl) rfl (by first | assumption | exact xup_self | exact (xup_ne (by assumption)).trans (by assumption) | exact (xup_ne (Ne.symm (by assumption))).trans (by assumption) | exact (xup_ne (by assumption)).trans xup_self | exact (xup_ne (Ne.symm (by assumption))).trans xup_self) rfl ?_
      refine xr_icmp_ge C d_Ma_longestUnused_43 46 48 rfl (by decide) (fun j43 => ?_) (fun j43 => ?_)
      · refine t48 _ ?_
        show _ = nI (if _ then _ else _)
        rw [if_neg (Int32.not_lt.mpr j43)]
      · refine xr_iload_n C d_Ma_longestUnused_46 47 rfl rfl ?_
        refine xr_istore_n C d_Ma_longestUnused_47 48 rfl rfl rfl ?_
        refine t48 _ ?_
        show _ = nI (if _ then _ else _)
        rw [if_pos (Int32.not_le.mp j43)]
  refine xr_iconst (v := 0) C d_Ma_longestUnused_0 1 rfl (by decide) ?_
  refine xr_istore_n C d_Ma_longestUnused_1 2 rfl rfl rfl ?_
  refine xr_iconst (v := 1) C d_Ma_longestUnused_2 3 rfl (by decide) ?_
  refine xr_istore_n C d_Ma_longestUnused_3 4 rfl rfl rfl ?_
  refine xG.eqL (show _ = [some (Value.ref a), some (Value.int (nI (luf ss 0))), some (Value.int (nI (0 + 1)))] from rfl) ?_
  exact loop (ss.length - 1) 0 (by omega)
set_option maxRecDepth 100000 in
set_option maxHeartbeats 4000000 in
theorem c_Ma_addSession {l : Launch} {D : va_G} {H0 : Heap} {X : xH} {a ls bs cs mp la be ce : Nat} {as1 as2 : List Nat} {ss : List Ss} {es : List Es} {g : Int32} {I : Nat → Option Imm} (hI : xIm D X I) (hA : xMac D X I a ls bs cs mp la be ce as1 as2 ss es g) {z : Int32} (hEm : I (D.2 200 0) = some (.inl [])) : xMet l D H0 y_Ma_addSession b_Ma_addSession 2 none [] 6 2 205 [.ref a, .int z] X (fun o X' => o = .inl none ∧ ∃ (I' : Nat → Option Imm) (bs' cs' : Nat) (as1' : List Nat), imX X I I' ∧ xIm D X' I' ∧ xMac D X' I' a ls bs' cs' mp la be ce as1' as2 (opS ss z) es z ∧ xFr [a, ls, bs] X X' ∧ (bs' = bs ∨ X bs' = none) ∧ cs ≤ cs') := by
  obtain ⟨ha, hL, hE, hok, hM, hll, hbb⟩ := id hA
  obtain ⟨vl, hl⟩ := hL.ob
  have hlen := hE.1
  have hle := hL.len
  have hok1 := hok.1
  obtain ⟨fbs, hbs⟩ := hL.ar
  obtain ⟨fbe, hbe⟩ := hM.2.1.ar
  obtain ⟨vla, hla⟩ := hM.2.1.ob
  have hmp := hM.1
  have n1 : a ∉ [ls, bs] := by
    simp only [List.mem_cons, List.not_mem_nil, or_false, not_or]
    exact ⟨xne ha hl (by intro h; cases h), xne ha hbs (by intro h; cases h)⟩
  have n2 : mp ∉ [a, ls, bs] := by
    simp only [List.mem_cons, List.not_mem_nil, or_false, not_or]
    exact ⟨xne hmp ha (by intro h; cases h), xne hmp hl (by intro h; cases h), xne hmp hbs (by intro h; cases h)⟩
  have n3 : la ∉ [a, ls, bs] := by
    simp only [List.mem_cons, List.not_mem_nil, or_false, not_or]
    exact ⟨xne hla ha (by intro h; cases h), Ne.symm hll, xne hla hbs (by intro h; cases h)⟩
  have n4 : be ∉ [a, ls, bs] ∨ xz0 X be := by
    rcases hbb.symm with h | h
    · left
      simp only [List.mem_cons, List.not_mem_nil, or_false, not_or]
      exact ⟨xne hbe ha (by intro h; cases h), xne hbe hl (by intro h; cases h), h⟩
    · exact Or.inr h
  refine ⟨[some (.ref a), some (.int z)], rfl, Nat.le_of_ble_eq_true rfl, fun E hD hH hl _ C => ?_⟩
  subst hD
  subst hH
  subst hl
  have tail : ∀ (Y : xH) (as' : List Nat) (ss' : List Ss), xIm E.D Y I → Y a = some (.inr (1, [.ref ls, .ref mp, .int g])) → xLi E.D Y ls bs cs as' → imSs I as' ss' → ss'.length < 16 → (∀ s ∈ ss', s.2.2.2.2.length ≤ 104) → xFr [a, ls, bs] X Y → opS ss z = ss' ++ [(z, z, 0, z, [])] → xG E Y 0 0 24 [some (.ref a), some (.int z)] [] := by
    intro Y as' ss' hIY haY hLY hEY hlY hoY hfY hop
    have hlenY := hEY.1
    obtain ⟨vlY, hlsY⟩ := hLY.ob
    refine xr_aload_n C d_Ma_addSession_24 25 rfl rfl ?_
    refine xr_get C K_Ma 0 d_Ma_addSession_25 28 rfl q_88 (Or.inl rfl) rfl (by first | assumption | exact xup_self | exact (xup_ne (by assumption)).trans (by assumption) | exact (xup_ne (Ne.symm (by assumption))).trans (by assumption) | exact (xup_ne (by assumption)).trans xup_self | exact (xup_ne (Ne.symm (by assumption))).trans xup_self) rfl ?_
    refine xr_new (fs := [.int 0, .int 0, .int 0, .int 0, .null]) C K_Se d_Ma_addSession_28 31 rfl q_292 q_304 q_18 (by intro j hj; match j, hj with | 0, _ => rfl | 1, _ => rfl | 2, _ => rfl | 3, _ => rfl | 4, _ => rfl) (by omega) (by omega) (fun q9 hq9 => ?_)
    refine xr_dup C d_Ma_addSession_31 32 rfl rfl ?_
    refine xr_iload_n C d_Ma_addSession_32 33 rfl rfl ?_
    refine xr_iload_n C d_Ma_addSession_33 34 rfl rfl ?_
    refine xr_iconst (v := 0) C d_Ma_addSession_34 35 rfl (by decide) ?_
    refine xr_iload_n C d_Ma_addSession_35 36 rfl rfl ?_
    refine xr_gets C C.kk.2.2.1 d_Ma_addSession_36 39 rfl (Or.inr ⟨_, q_305⟩) ?_
    refine xr_callI C (c_Se_init xup_self) kc_Se_init d_Ma_addSession_39 42 rfl (Or.inl q_307) v_Se_init rfl h_Se_init rfl ⟨Nat.le_of_ble_eq_true rfl, Nat.le_of_ble_eq_true rfl, Nat.le_of_ble_eq_true rfl⟩ (by omega) (by omega) (fun v9 X' hP => ?_) (fun _ _ h => absurd h.1 (by simp))
    obtain ⟨h1, rfl⟩ := hP
    cases h1
    refine xG.eqX xup_up ?_
    obtain ⟨I1, hI1d⟩ : ∃ I1, I1 = imUp I q9 (.inr (.inl (z, z, 0, z, E.D.2 200 0))) := ⟨_, rfl⟩
    obtain ⟨X1, hX1⟩ : ∃ w, w = xup Y q9 (.inr (4, [.int z, .int z, .int 0, .int z, .ref (E.D.2 200 0)])) := ⟨_, rfl⟩
    refine xG.eqX (show _ = X1 from hX1.symm) ?_
    have hfr0 : xFr [] Y X1 := by rw [hX1]; exact xFr_new hq9
    have hI1 : xIm E.D X1 I1 := by rw [hX1, hI1d]; exact hIY.new hq9 xup_self
    have hle1 : imX Y I I1 := by rw [hI1d]; exact imX_up hIY hq9
    have hS1 : imS I1 q9 (z, z, 0, z, []) := ⟨E.D.2 200 0, by rw [hI1d]; exact imUp_self, hle1.1 _ _ hEm⟩
    have hL1 := hLY.keep hfr0 List.not_mem_nil List.not_mem_nil
    have ha1 := hfr0.use haY List.not_mem_nil
    obtain ⟨vl1, hl1⟩ := hL1.ob
    obtain ⟨fb1, hb1⟩ := hL1.ar
    refine xr_callV C (c_AL_add1 hL1 (by omega) ((hEY.le hle1.1).ob hI1) (hS1.ob hI1) (k := 1) (fun _ => Nat.le_refl _)) k_AL_add1 d_Ma_addSession_42 45 rfl (by first | assumption | exact xup_self | exact (xup_ne (by assumption)).trans (by assumption) | exact (xup_ne (Ne.symm (by assumption))).trans (by assumption) | exact (xup_ne (by assumption)).trans xup_self | exact (xup_ne (Ne.symm (by assumption))).trans xup_self) rfl (Or.inl q_334) v_AL_add1 e_AL_add1 h_AL_add1 rfl ⟨Nat.le_of_ble_eq_true rfl, Nat.le_of_ble_eq_true rfl, Nat.le_of_ble_eq_true rfl⟩ (by omega) (by omega) (fun v9 X2 hP => ?_) (fun _ _ h => absurd h.1 (by simp))
    obtain ⟨h1, b2, hL2, hfr2, hb2⟩ := hP
    cases h1
    have hI2 := hI1.keepL hL1 hfr2
    have ha2 := hfr2.use ha1 n1
    refine xr_pop C d_Ma_addSession_45 46 rfl rfl ?_
    refine xr_aload_n C d_Ma_addSession_46 47 rfl rfl ?_
    refine xr_iload_n C d_Ma_addSession_47 48 rfl rfl ?_
    refine xr_put C K_Ma 2 d_Ma_addSession_48 51 rfl q_92 (Or.inl rfl) rfl rfl rfl rfl (by first | assumption | exact xup_self | exact (xup_ne (by assumption)).trans (by assumption) | exact (xup_ne (Ne.symm (by assumption))).trans (by assumption) | exact (xup_ne (by assumption)).trans xup_self | exact (xup_ne (Ne.symm (by assumption))).trans xup_self) rfl rfl ?_
    have hfA : xFr [a, ls, bs] X X2 := (hfY.trans (hfr0.mono (fun q hq => absurd hq List.not_mem_nil))).trans (hfr2.mono (fun q hq => List.mem_cons_of_mem _ hq))
    have hfB : xFr [a, ls, bs] X (xup X2 a (.inr (1, [.ref ls, .ref mp, .int z]))) := hfA.trans (xFr_up ha2 (fun z => z) (by simp))
    have hbn : b2 = bs ∨ X b2 = none := hb2.imp id (fun e => hfY.2 _ (hfr0.2 _ e))
    refine xr_vret C d_Ma_addSession_51 (by omega) (by omega) ⟨rfl, I1, b2, _, as' ++ [q9], ⟨hle1.1, fun q c hq hi => ?_⟩, hI2.up1 ha2 (by decide) (by decide), ⟨xup_self, hL2.keep1 ha2 (by decide), ?_, ⟨?_, ?_⟩, (hM.le hle1.1).keepz hfB n2 n3 n4, hll, hbb.new hfB hbn hbe⟩, hfB, hbn, ?_⟩
    · obtain ⟨c', hc'⟩ := hfY.dom q c hq
      exact hle1.2 q c' hc' hi
    · rw [hop]
      exact (hEY.le hle1.1).snoc hS1
    · rw [hop, List.length_append, List.length_singleton]
      omega
    · intro s hs
      rw [hop] at hs
      rcases List.mem_append.mp hs with h | h
      · exact hoY s h
      · rw [List.mem_singleton.mp h]
        exact Nat.zero_le _
    · split
      · exact Nat.le_refl _
      · exact nx_ge
  refine xr_aload_n C d_Ma_addSession_0 1 rfl rfl ?_
  refine xr_get C K_Ma 0 d_Ma_addSession_1 4 rfl q_88 (Or.inl rfl) rfl (by first | assumption | exact xup_self | exact (xup_ne (by assumption)).trans (by assumption) | exact (xup_ne (Ne.symm (by assumption))).trans (by assumption) | exact (xup_ne (by assumption)).trans xup_self | exact (xup_ne (Ne.symm (by assumption))).trans xup_self) rfl ?_
  refine xr_callV C (l_size hL) k_AL_size d_Ma_addSession_4 7 rfl (by first | assumption | exact xup_self | exact (xup_ne (by assumption)).trans (by assumption) | exact (xup_ne (Ne.symm (by assumption))).trans (by assumption) | exact (xup_ne (by assumption)).trans xup_self | exact (xup_ne (Ne.symm (by assumption))).trans xup_self) rfl (Or.inl q_270) v_AL_size e_AL_size h_AL_size rfl ⟨Nat.le_of_ble_eq_true rfl, Nat.le_of_ble_eq_true rfl, Nat.le_of_ble_eq_true rfl⟩ (by omega) (by omega) (fun v9 X hP => ?_) (fun _ _ h => absurd h.1 (by simp))
  obtain ⟨h1, rfl⟩ := hP
  cases h1
  refine xr_bipush (v := 16) C d_Ma_addSession_7 9 rfl (by decide) ?_
  refine xr_toi (show _ = nI 16 from rfl) ?_
  refine xr_icmp_lt C d_Ma_addSession_9 12 24 rfl (by decide) (fun h9 => ?_) (fun h9 => ?_)
  · have h16 : as1.length < 16 := (nI_ltI (by omega) (by omega)).mp h9
    exact tail X as1 ss hI ha hL hE (by omega) hok.2 xFr.rf (by unfold opS; rw [if_neg (by omega)])
  · have h16 : ¬ as1.length < 16 := fun h => h9 (nI_lt h (by omega))
    have hlu : lu ss < ss.length := by
      have := luf_le ss (ss.length - 1)
      unfold lu
      omega
    refine xr_aload_n C d_Ma_addSession_12 13 rfl rfl ?_
    refine xr_get C K_Ma 0 d_Ma_addSession_13 16 rfl q_88 (Or.inl rfl) rfl (by first | assumption | exact xup_self | exact (xup_ne (by assumption)).trans (by assumption) | exact (xup_ne (Ne.symm (by assumption))).trans (by assumption) | exact (xup_ne (by assumption)).trans xup_self | exact (xup_ne (Ne.symm (by assumption))).trans xup_self) rfl ?_
    refine xr_aload_n C d_Ma_addSession_16 17 rfl rfl ?_
    refine xr_callV C (c_Ma_longestUnused hI hA (by omega)) k_Ma_longestUnused d_Ma_addSession_17 20 rfl (by first | assumption | exact xup_self | exact (xup_ne (by assumption)).trans (by assumption) | exact (xup_ne (Ne.symm (by assumption))).trans (by assumption) | exact (xup_ne (by assumption)).trans xup_self | exact (xup_ne (Ne.symm (by assumption))).trans xup_self) rfl (Or.inl q_274) v_Ma_longestUnused e_Ma_longestUnused h_Ma_longestUnused rfl ⟨Nat.le_of_ble_eq_true rfl, Nat.le_of_ble_eq_true rfl, Nat.le_of_ble_eq_true rfl⟩ (by omega) (by omega) (fun v9 X hP => ?_) (fun _ _ h => absurd h.1 (by simp))
    obtain ⟨h1, rfl⟩ := hP
    cases h1
    refine xr_callV C (l_remove hL (by omega) (hE.ob hI)) k_AL_remove d_Ma_addSession_20 23 rfl (by first | assumption | exact xup_self | exact (xup_ne (by assumption)).trans (by assumption) | exact (xup_ne (Ne.symm (by assumption))).trans (by assumption) | exact (xup_ne (by assumption)).trans xup_self | exact (xup_ne (Ne.symm (by assumption))).trans xup_self) rfl (Or.inl q_293) v_AL_remove e_AL_remove h_AL_remove rfl ⟨Nat.le_of_ble_eq_true rfl, Nat.le_of_ble_eq_true rfl, Nat.le_of_ble_eq_true rfl⟩ (by omega) (by omega) (fun v9 X2 hP => ?_) (fun _ _ h => absurd h.1 (by simp))
    obtain ⟨h1, hL2, hf2⟩ := hP
    cases h1
    refine xr_pop C d_Ma_addSession_23 24 rfl rfl ?_
    refine tail X2 _ (ss.eraseIdx (lu ss)) (hI.keepL hL hf2) (hf2.use ha n1) hL2 (hE.erase hlu) ?_ (fun s hs => hok.2 s (List.mem_of_mem_eraseIdx hs)) (hf2.mono (fun q hq => List.mem_cons_of_mem _ hq)) (by unfold opS; rw [if_pos (by omega)])
    rw [List.length_eraseIdx_of_lt hlu]
    omega
set_option maxRecDepth 100000 in
set_option maxHeartbeats 4000000 in
theorem c_Ma_forget {l : Launch} {D : va_G} {H0 : Heap} {X : xH} {a ls bs cs mp la be ce : Nat} {as1 as2 : List Nat} {ss : List Ss} {es : List Es} {g : Int32} {I : Nat → Option Imm} (hI : xIm D X I) (hA : xMac D X I a ls bs cs mp la be ce as1 as2 ss es g) : xMet l D H0 y_Ma_forget b_Ma_forget 1 none [] 1 0 0 [.ref a] X (fun o X' => o = .inl none ∧ xIm D X' I ∧ xMac D X' I a ls bs cs mp la be ce [] [] [] [] g ∧ xFr [ls, bs, mp, la, be] X X') := by
  obtain ⟨ha, hL, hE, hok, hM, hll, hbb⟩ := id hA
  obtain ⟨vl, hl⟩ := hL.ob
  have hlen := hE.1
  have hle := hL.len
  have hok1 := hok.1
  obtain ⟨fbs, hbs⟩ := hL.ar
  obtain ⟨fbe, hbe⟩ := hM.2.1.ar
  obtain ⟨vla, hla⟩ := hM.2.1.ob
  have hmp := hM.1
  have n1 : a ∉ [ls, bs] := by
    simp only [List.mem_cons, List.not_mem_nil, or_false, not_or]
    exact ⟨xne ha hl (by intro h; cases h), xne ha hbs (by intro h; cases h)⟩
  have n2 : mp ∉ [ls, bs] := by
    simp only [List.mem_cons, List.not_mem_nil, or_false, not_or]
    exact ⟨xne hmp hl (by intro h; cases h), xne hmp hbs (by intro h; cases h)⟩
  have n3 : la ∉ [ls, bs] := by
    simp only [List.mem_cons, List.not_mem_nil, or_false, not_or]
    exact ⟨Ne.symm hll, xne hla hbs (by intro h; cases h)⟩
  have n4 : be ∉ [ls, bs] ∨ xz0 X be := by
    rcases hbb.symm with h | h
    · left
      simp only [List.mem_cons, List.not_mem_nil, or_false, not_or]
      exact ⟨xne hbe hl (by intro h; cases h), h⟩
    · exact Or.inr h
  have n5 : mp ∉ [la, be] := by
    simp only [List.mem_cons, List.not_mem_nil, or_false, not_or]
    exact ⟨xne hmp hla (by intro h; cases h), xne hmp hbe (by intro h; cases h)⟩
  have n6 : a ∉ [la, be] := by
    simp only [List.mem_cons, List.not_mem_nil, or_false, not_or]
    exact ⟨xne ha hla (by intro h; cases h), xne ha hbe (by intro h; cases h)⟩
  refine ⟨[some (.ref a)], rfl, Nat.le_of_ble_eq_true rfl, fun E hD hH hl _ C => ?_⟩
  subst hD
  subst hH
  subst hl
  refine xr_aload_n C d_Ma_forget_0 1 rfl rfl ?_
  refine xr_get C K_Ma 0 d_Ma_forget_1 4 rfl q_88 (Or.inl rfl) rfl (by first | assumption | exact xup_self | exact (xup_ne (by assumption)).trans (by assumption) | exact (xup_ne (Ne.symm (by assumption))).trans (by assumption) | exact (xup_ne (by assumption)).trans xup_self | exact (xup_ne (Ne.symm (by assumption))).trans xup_self) rfl ?_
  refine xr_callV C (l_clear hL) k_AL_clear d_Ma_forget_4 7 rfl (by first | assumption | exact xup_self | exact (xup_ne (by assumption)).trans (by assumption) | exact (xup_ne (Ne.symm (by assumption))).trans (by assumption) | exact (xup_ne (by assumption)).trans xup_self | exact (xup_ne (Ne.symm (by assumption))).trans xup_self) rfl (Or.inl q_874) v_AL_clear e_AL_clear h_AL_clear rfl ⟨Nat.le_of_ble_eq_true rfl, Nat.le_of_ble_eq_true rfl, Nat.le_of_ble_eq_true rfl⟩ (by omega) (by omega) (fun v9 X1 hP => ?_) (fun _ _ h => absurd h.1 (by simp))
  obtain ⟨h1, hL1, hf1⟩ := hP
  cases h1
  have ha1 := hf1.use ha n1
  have hM1 := hM.keepz hf1 n2 n3 n4
  have hmp1 := hM1.1
  have hI1 := hI.keepL hL hf1
  obtain ⟨vla1, hla1⟩ := hM1.2.1.ob
  refine xr_aload_n C d_Ma_forget_7 8 rfl rfl ?_
  refine xr_get C K_Ma 1 d_Ma_forget_8 11 rfl q_90 (Or.inl rfl) rfl (by first | assumption | exact xup_self | exact (xup_ne (by assumption)).trans (by assumption) | exact (xup_ne (Ne.symm (by assumption))).trans (by assumption) | exact (xup_ne (by assumption)).trans xup_self | exact (xup_ne (Ne.symm (by assumption))).trans xup_self) rfl ?_
  refine xr_get C K_KM 0 d_Ma_forget_11 14 rfl q_78 (Or.inl rfl) rfl (by first | assumption | exact xup_self | exact (xup_ne (by assumption)).trans (by assumption) | exact (xup_ne (Ne.symm (by assumption))).trans (by assumption) | exact (xup_ne (by assumption)).trans xup_self | exact (xup_ne (Ne.symm (by assumption))).trans xup_self) rfl ?_
  refine xr_callV C (l_clear hM1.2.1) k_AL_clear d_Ma_forget_14 17 rfl (by first | assumption | exact xup_self | exact (xup_ne (by assumption)).trans (by assumption) | exact (xup_ne (Ne.symm (by assumption))).trans (by assumption) | exact (xup_ne (by assumption)).trans xup_self | exact (xup_ne (Ne.symm (by assumption))).trans xup_self) rfl (Or.inl q_874) v_AL_clear e_AL_clear h_AL_clear rfl ⟨Nat.le_of_ble_eq_true rfl, Nat.le_of_ble_eq_true rfl, Nat.le_of_ble_eq_true rfl⟩ (by omega) (by omega) (fun v9 X2 hP => ?_) (fun _ _ h => absurd h.1 (by simp))
  obtain ⟨h1, hL2, hf2⟩ := hP
  cases h1
  have ha2 := hf2.use ha1 n6
  have hmp2 := hf2.use hmp1 n5
  have hI2 := hI1.keepL hM1.2.1 hf2
  have n7 : ls ∉ [la, be] := by
    simp only [List.mem_cons, List.not_mem_nil, or_false, not_or]
    exact ⟨hll, xne hl hbe (by intro h; cases h)⟩
  have n8 : bs ∉ [la, be] ∨ xz0 X1 bs := by
    rcases hbb with h | h
    · left
      simp only [List.mem_cons, List.not_mem_nil, or_false, not_or]
      exact ⟨xne hbs hla (by intro h; cases h), h⟩
    · exact Or.inr (h.keep hf1)
  have hL3 := hL1.keepz hf2 n7 n8
  refine xr_aload_n C d_Ma_forget_17 18 rfl rfl ?_
  refine xr_get C K_Ma 1 d_Ma_forget_18 21 rfl q_90 (Or.inl rfl) rfl (by first | assumption | exact xup_self | exact (xup_ne (by assumption)).trans (by assumption) | exact (xup_ne (Ne.symm (by assumption))).trans (by assumption) | exact (xup_ne (by assumption)).trans xup_self | exact (xup_ne (Ne.symm (by assumption))).trans xup_self) rfl ?_
  refine xr_iconst (v := 0) C d_Ma_forget_21 22 rfl (by decide) ?_
  refine xr_put C K_KM 1 d_Ma_forget_22 25 rfl q_81 (Or.inl rfl) rfl rfl rfl rfl (by first | assumption | exact xup_self | exact (xup_ne (by assumption)).trans (by assumption) | exact (xup_ne (Ne.symm (by assumption))).trans (by assumption) | exact (xup_ne (by assumption)).trans xup_self | exact (xup_ne (Ne.symm (by assumption))).trans xup_self) rfl rfl ?_
  have hfA : xFr [ls, bs, mp, la, be] X (xup X2 mp (.inr (2, [.ref la, .int 0]))) := by
    refine ((hf1.mono ?_).trans (hf2.mono ?_)).trans (xFr_up hmp2 (fun z => z) (by simp))
    · intro q hq
      simp only [List.mem_cons, List.not_mem_nil, or_false] at hq ⊢
      rcases hq with e | e
      · exact Or.inl e
      · exact Or.inr (Or.inl e)
    · intro q hq
      simp only [List.mem_cons, List.not_mem_nil, or_false] at hq ⊢
      exact Or.inr (Or.inr (Or.inr hq))
  refine xr_vret C d_Ma_forget_25 (by omega) (by omega) ⟨rfl, hI2.up1 hmp2 (by decide) (by decide), ⟨?_, hL3.keep1 hmp2 (by decide), ⟨rfl, fun i hi => absurd hi (Nat.not_lt_zero _)⟩, ⟨Nat.zero_le _, fun s hs => absurd hs List.not_mem_nil⟩, ⟨xup_self, hL2.keep1 hmp2 (by decide), ⟨rfl, fun i hi => absurd hi (Nat.not_lt_zero _)⟩, Nat.zero_le _, Nat.zero_le _, fun s hs => absurd hs List.not_mem_nil⟩, hll, hbb.keep hfA⟩, hfA⟩
  exact (xup_ne (xne ha2 hmp2 (by intro h; cases h))).trans ha2
