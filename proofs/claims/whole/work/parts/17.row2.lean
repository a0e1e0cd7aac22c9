/-! What never changes once it is made: rows of bytes, sessions, entries. -/
abbrev Imm := List Int32 ⊕ (Int32 × Int32 × Int32 × Int32 × Nat) ⊕ (Nat × Nat) ⊕ va_E
/-- cells that are none of the class's: the model, arrays of ints and longs -/
def xfor (v : va_E) : Prop := match v with
  | .inr (ci, _) => ci = 6
  | .inl (_, _, .inl _) => True
  | .inl (_, _, .inr (.inl _)) => True
  | _ => False
def xBy (D : va_G) (X : xH) (a : Nat) (bs : List Int32) : Prop := bs.length ≤ 300 ∧ ∃ f : Nat → Int32, X a = some (.inl (D.1 100, bs.length, .inl f)) ∧ ∀ i, i < bs.length → f i = bs.getD i 0 ∧ isb (bs.getD i 0)
def xIc (D : va_G) (X : xH) (a : Nat) : Imm → Prop
  | .inl bs => xBy D X a bs
  | .inr (.inl (n, u, s, p, q)) => X a = some (.inr (4, [.int n, .int u, .int s, .int p, .ref q]))
  | .inr (.inr (.inl (k, v))) => X a = some (.inr (5, [.ref k, .ref v]))
  | .inr (.inr (.inr v)) => X a = some v ∧ xfor v
def xIm (D : va_G) (X : xH) (I : Nat → Option Imm) : Prop := ∀ a v, I a = some v → xIc D X a v
theorem xIc.at {D : va_G} {X : xH} {a : Nat} {v : Imm} (h : xIc D X a v) : ∃ c, X a = some c := by
  rcases v with bs | ⟨n, u, s, p, q⟩ | ⟨k, v⟩ | v
  · obtain ⟨-, f, h1, -⟩ := h
    exact ⟨_, h1⟩
  · exact ⟨_, h⟩
  · exact ⟨_, h⟩
  · exact ⟨_, h.1⟩
theorem xIc.keep {D : va_G} {X X' : xH} {a : Nat} {v : Imm} (h : xIc D X a v) (hk : ∀ c, X a = some c → X' a = some c) : xIc D X' a v := by
  rcases v with bs | ⟨n, u, s, p, q⟩ | ⟨k, v⟩ | v
  · obtain ⟨h0, f, h1, h2⟩ := h
    exact ⟨h0, f, hk _ h1, h2⟩
  · exact hk _ h
  · exact hk _ h
  · exact ⟨hk _ h.1, h.2⟩
theorem xIm.keep {D : va_G} {X X' : xH} {I : Nat → Option Imm} {S : List Nat} (h : xIm D X I) (hf : xFr S X X') (hS : ∀ a ∈ S, I a = none) : xIm D X' I := fun a v hv => (h a v hv).keep fun c hc => hf.use hc fun hm => by
  rw [hS a hm] at hv
  cases hv
theorem xIm.nob {D : va_G} {X : xH} {I : Nat → Option Imm} (h : xIm D X I) {a ci : Nat} {fs : List Value} (hx : X a = some (.inr (ci, fs))) (h4 : ci ≠ 4 ∧ ci ≠ 6) (h5 : ci ≠ 5) : I a = none := by
  cases e : I a with
  | none => rfl
  | some v =>
    have h1 := h a v e
    rcases v with bs | ⟨n, u, s, p, q⟩ | ⟨k, v⟩ | v
    · obtain ⟨-, f, h1, -⟩ := h1
      cases hx.symm.trans h1
    · cases hx.symm.trans h1
      exact absurd rfl h4.1
    · cases hx.symm.trans h1
      exact absurd rfl h5
    · cases hx.symm.trans h1.1
      exact absurd h1.2 h4.2
theorem xIm.nar {D : va_G} {X : xH} {I : Nat → Option Imm} (h : xIm D X I) {a N : Nat} {c : ClassId} {p : (Nat → UInt32) ⊕ (Nat → UInt64) ⊕ (Nat → Option Nat)} (hx : X a = some (.inl (c, N, .inr (.inr p)))) : I a = none := by
  cases e : I a with
  | none => rfl
  | some v =>
    have h1 := h a v e
    rcases v with bs | ⟨n, u, s, p, q⟩ | ⟨k, v⟩ | v
    · obtain ⟨-, f, h1, -⟩ := h1
      cases hx.symm.trans h1
    · cases hx.symm.trans h1
    · cases hx.symm.trans h1
    · cases hx.symm.trans h1.1
      exact h1.2.elim
theorem xIm.non {D : va_G} {X : xH} {I : Nat → Option Imm} (h : xIm D X I) {a : Nat} (hx : X a = none) : I a = none := by
  cases e : I a with
  | none => rfl
  | some v =>
    obtain ⟨c, h1⟩ := (h a v e).at
    cases hx.symm.trans h1
def imUp (I : Nat → Option Imm) (a : Nat) (v : Imm) : Nat → Option Imm := fun q => if q = a then some v else I q
def imLe (I I' : Nat → Option Imm) : Prop := ∀ a v, I a = some v → I' a = some v
theorem imLe.rf {I : Nat → Option Imm} : imLe I I := fun _ _ h => h
theorem imLe.trans {I I' I'' : Nat → Option Imm} (h1 : imLe I I') (h2 : imLe I' I'') : imLe I I'' := fun a v h => h2 a v (h1 a v h)
theorem imUp_le {I : Nat → Option Imm} {a : Nat} {v : Imm} (h : I a = none) : imLe I (imUp I a v) := fun q w hq => by
  unfold imUp
  rw [if_neg (fun e => by rw [e, h] at hq; cases hq)]
  exact hq
theorem imUp_self {I : Nat → Option Imm} {a : Nat} {v : Imm} : imUp I a v a = some v := if_pos rfl
theorem imUp_ne {I : Nat → Option Imm} {a q : Nat} {v : Imm} (h : q ≠ a) : imUp I a v q = I q := if_neg h
theorem xIm.up {D : va_G} {X : xH} {I : Nat → Option Imm} {a : Nat} {v : Imm} (h : xIm D X I) (hv : xIc D X a v) : xIm D X (imUp I a v) := fun q w hq => by
  unfold imUp at hq
  split at hq
  · next e =>
    cases hq
    rw [e]
    exact hv
  · exact h q w hq
/-- what comes of adding to a row leaves the rest -/
theorem xAdd.im {D : va_G} {X X' : xH} {I : Nat → Option Imm} {r b d : Nat} {bs : List Int32} (h : xAdd D X X' r b d bs) (hI : xIm D X I) (hr : I r = none) (hb : I b = none) : xIm D X' I ∧ ∃ b', xRow D X' r b' d bs ∧ I b' = none := by
  obtain ⟨b', h1, h2, h3⟩ := h
  refine ⟨hI.keep h2 (fun a ha => ?_), b', h1, ?_⟩
  · rcases List.mem_cons.mp ha with e | e
    · rw [e]
      exact hr
    · rw [show a = b by simpa using e]
      exact hb
  · rcases h3 with e | e
    · rw [e]
      exact hb
    · exact hI.non e
theorem xRow.nob {D : va_G} {X : xH} {I : Nat → Option Imm} {r b cap : Nat} {bs : List Int32} (h : xRow D X r b cap bs) (hI : xIm D X I) : I r = none := by
  obtain ⟨f, h1, -⟩ := h
  exact hI.nob h1 (by decide) (by decide)
/-- the bytes of a number -/
def nby (v : Int32) (i : Nat) : Int32 := (v.toUInt32 >>> ((8 * nI i).toUInt32 &&& Int32.toUInt32 31)).toInt32.toInt8.toInt32
def num (v : Int32) (w : Nat) : List Int32 := (List.range w).map (nby v)
theorem num_succ {v : Int32} {w : Nat} : num v (w + 1) = num v w ++ [nby v w] := by
  unfold num
  rw [List.range_succ, List.map_append]
  rfl
theorem num_len {v : Int32} {w : Nat} : (num v w).length = w := by
  unfold num
  rw [List.length_map, List.length_range]
theorem xRow.cap {D : va_G} {X : xH} {r b cap : Nat} {bs : List Int32} (h : xRow D X r b cap bs) : 0 < cap ∧ cap ≤ 32767 ∧ bs.length ≤ cap := by
  obtain ⟨f, -, -, h1, -, -, h4, h5⟩ := h
  omega
theorem xRow.at {D : va_G} {X : xH} {r b cap : Nat} {bs : List Int32} (h : xRow D X r b cap bs) : X r = some (.inr (3, [.ref b, .int (nI bs.length)])) := by
  obtain ⟨f, h1, -⟩ := h
  exact h1
theorem xRow.arr {D : va_G} {X : xH} {r b cap : Nat} {bs : List Int32} (h : xRow D X r b cap bs) : ∃ f, X b = some (.inl (D.1 100, cap, .inl f)) := by
  obtain ⟨f, h1, h2, -⟩ := h
  exact ⟨f, h2⟩
theorem xFr2 {X X' : xH} {r b q : Nat} {v : va_E} (h : xFr [r, b] X X') (hq : X q = some v) (h1 : q ≠ r) (h2 : q ≠ b) : X' q = some v := h.use hq (by simp [h1, h2])
set_option maxRecDepth 100000 in
set_option maxHeartbeats 4000000 in
theorem c_Ro_addNumber {l : Launch} {D : va_G} {H0 : Heap} {X : xH} {r b cap d n : Nat} {bs : List Int32} {v : Int32} (hR : xRow D X r b cap bs) (hn : n ≤ 4) (hd : isR cap (bs.length + n) d) (hd2 : d ≤ 32767) : xMet l D H0 y_Ro_addNumber b_Ro_addNumber 4 none [] 2 (d - cap) (2 * (d - cap)) [.ref r, .int v, .int (nI n)] X (fun o X' => o = .inl none ∧ xAdd D X X' r b d (bs ++ num v n)) := by
  refine ⟨[some (.ref r), some (.int v), some (.int (nI n)), none], rfl, Nat.le_of_ble_eq_true rfl, fun E hD hH hl _ C => ?_⟩
  subst hD
  subst hH
  subst hl
  have hcc := hR.cap
  have loop : ∀ (k i di : Nat) (Y : xH), i + k = n → isR di (bs.length + n) d → cap ≤ di → xAdd E.D X Y r b di (bs ++ num v i) → xG E Y (di - cap) (2 * (di - cap)) 2 [some (.ref r), some (.int v), some (.int (nI n)), some (.int (nI i))] [] := by
    intro k
    induction k with
    | zero =>
      intro i di Y hi h1 h2 h3
      obtain ⟨b1, h4, h5, h6⟩ := h3
      have hcd := h4.cap
      rw [List.length_append, num_len] at hcd
      have e1 : d = di := h1.fit (by omega)
      have e2 : i = n := by omega
      subst e1
      subst e2
      refine xr_iload_n C d_Ro_addNumber_2 3 rfl rfl ?_
      refine xr_iload_n C d_Ro_addNumber_3 4 rfl rfl ?_
      refine xr_icmp_ge C d_Ro_addNumber_4 7 24 rfl (by decide) (fun _ => ?_) (fun h => absurd (nI_le (Nat.le_refl _) (by omega)) h)
      exact xr_vret C d_Ro_addNumber_24 (by omega) (by omega) ⟨rfl, b1, h4, h5, h6⟩
    | succ k ih =>
      intro i di Y hi h1 h2 h3
      obtain ⟨b1, h4, h5, h6⟩ := h3
      have hcd := h4.cap
      have hr1 := h4.at
      obtain ⟨d', hd'⟩ := isR.ex (c := di) (n := bs.length + i + 1) (by omega)
      have hl1 := hd'.le
      have hl2 := hd'.then h1 (by omega)
      have hl3 := hl2.le
      refine xr_iload_n C d_Ro_addNumber_2 3 rfl rfl ?_
      refine xr_iload_n C d_Ro_addNumber_3 4 rfl rfl ?_
      refine xr_icmp_ge C d_Ro_addNumber_4 7 24 rfl (by decide) (fun h => absurd h (nI_ge (show i < n by omega) (by omega))) (fun _ => ?_)
      refine xr_aload_n C d_Ro_addNumber_7 8 rfl rfl ?_
      refine xr_iload_n C d_Ro_addNumber_8 9 rfl rfl ?_
      refine xr_bipush (v := 8) C d_Ro_addNumber_9 11 rfl (by decide) ?_
      refine xr_iload_n C d_Ro_addNumber_11 12 rfl rfl ?_
      refine xr_imul C d_Ro_addNumber_12 13 rfl ?_
      refine xr_iushr C d_Ro_addNumber_13 14 rfl rfl ?_
      refine xr_i2b C d_Ro_addNumber_14 15 rfl rfl ?_
      refine xr_callV C (c_Ro_addByte (d := d') h4 (isb_i2b _) (by rw [List.length_append, num_len]; exact hd') (by omega)) k_Ro_addByte d_Ro_addNumber_15 18 rfl (by first | assumption | exact xup_self | exact (xup_ne (by assumption)).trans (by assumption) | exact (xup_ne (Ne.symm (by assumption))).trans (by assumption) | exact (xup_ne (by assumption)).trans xup_self | exact (xup_ne (Ne.symm (by assumption))).trans xup_self) rfl (Or.inl q_447) v_Ro_addByte e_Ro_addByte h_Ro_addByte rfl ⟨Nat.le_of_ble_eq_true rfl, Nat.le_of_ble_eq_true rfl, Nat.le_of_ble_eq_true rfl⟩ (by omega) (by omega) (fun v9 Y' hP => ?_) (fun _ _ h => absurd h.1 (by simp))
      obtain ⟨e1, e2⟩ := hP
      cases e1
      refine xG.wide (c2 := d' - cap) (s2 := 2 * (d' - cap)) (by omega) (by omega) ?_
      refine xr_iinc (v := 1) C d_Ro_addNumber_18 21 rfl rfl rfl rfl (by decide) ?_
      refine xr_goto C d_Ro_addNumber_21 2 (by decide) ?_
      refine xG.eqL (show _ = [some (Value.ref r), some (Value.int v), some (Value.int (nI n)), some (Value.int (nI (i + 1)))] by rw [← nI_one]; rfl) ?_
      refine ih (i + 1) d' Y' (by omega) hl2 (by omega) ?_
      rw [num_succ, ← List.append_assoc]
      exact xAdd.then h5 h6 e2
  refine xr_iconst (v := 0) C d_Ro_addNumber_0 1 rfl (by decide) ?_
  refine xr_istore_n C d_Ro_addNumber_1 2 rfl rfl rfl ?_
  refine xG.wide (c2 := cap - cap) (s2 := 2 * (cap - cap)) (by omega) (by omega) ?_
  refine loop n 0 cap X (by omega) hd (by omega) ⟨b, ?_, xFr.rf, Or.inl rfl⟩
  rw [show num v 0 = [] from rfl, List.append_nil]
  exact hR
set_option maxRecDepth 100000 in
set_option maxHeartbeats 4000000 in
theorem c_Ro_addAll {l : Launch} {D : va_G} {H0 : Heap} {X : xH} {r b cap d q : Nat} {bs more : List Int32} (hR : xRow D X r b cap bs) (hq : xBy D X q more) (hqb : q ≠ b) (hd : isR cap (bs.length + more.length) d) (hd2 : d ≤ 32767) : xMet l D H0 y_Ro_addAll b_Ro_addAll 3 none [] 2 (d - cap) (2 * (d - cap)) [.ref r, .ref q] X (fun o X' => o = .inl none ∧ xAdd D X X' r b d (bs ++ more)) := by
  obtain ⟨hml, f, hq1, hq2⟩ := hq
  refine ⟨[some (.ref r), some (.ref q), none], rfl, Nat.le_of_ble_eq_true rfl, fun E hD hH hl _ C => ?_⟩
  subst hD
  subst hH
  subst hl
  have hcc := hR.cap
  have hqr : q ≠ r := xne hq1 hR.at (by intro h; cases h)
  have loop : ∀ (k i di : Nat) (Y : xH), i + k = more.length → isR di (bs.length + more.length) d → cap ≤ di → xAdd E.D X Y r b di (bs ++ more.take i) → xG E Y (di - cap) (2 * (di - cap)) 2 [some (.ref r), some (.ref q), some (.int (nI i))] [] := by
    intro k
    induction k with
    | zero =>
      intro i di Y hi h1 h2 h3
      obtain ⟨b1, h4, h5, h6⟩ := h3
      have hcd := h4.cap
      have e2 : i = more.length := by omega
      subst e2
      rw [List.take_length] at h4 hcd
      rw [List.length_append] at hcd
      have e1 : d = di := h1.fit (by omega)
      subst e1
      refine xr_iload_n C d_Ro_addAll_2 3 rfl rfl ?_
      refine xr_aload_n C d_Ro_addAll_3 4 rfl rfl ?_
      refine xr_alen (t0 := 0) C rfl d_Ro_addAll_4 5 rfl (xFr2 h5 hq1 hqr hqb) ?_
      refine xr_icmp_ge C d_Ro_addAll_5 8 21 rfl (by decide) (fun _ => ?_) (fun h => absurd (nI_le (Nat.le_refl _) (by omega)) h)
      exact xr_vret C d_Ro_addAll_21 (by omega) (by omega) ⟨rfl, b1, h4, h5, h6⟩
    | succ k ih =>
      intro i di Y hi h1 h2 h3
      obtain ⟨b1, h4, h5, h6⟩ := h3
      have hcd := h4.cap
      have hr1 := h4.at
      have hi2 : i < more.length := by omega
      obtain ⟨d', hd'⟩ := isR.ex (c := di) (n := bs.length + i + 1) (by omega)
      have hl1 := hd'.le
      have hl2 := hd'.then h1 (by omega)
      have hl3 := hl2.le
      have hq3 := xFr2 h5 hq1 hqr hqb
      refine xr_iload_n C d_Ro_addAll_2 3 rfl rfl ?_
      refine xr_aload_n C d_Ro_addAll_3 4 rfl rfl ?_
      refine xr_alen (t0 := 0) C rfl d_Ro_addAll_4 5 rfl hq3 ?_
      refine xr_icmp_ge C d_Ro_addAll_5 8 21 rfl (by decide) (fun h => absurd h (nI_ge (show i < more.length by omega) (by omega))) (fun _ => ?_)
      refine xr_aload_n C d_Ro_addAll_8 9 rfl rfl ?_
      refine xr_aload_n C d_Ro_addAll_9 10 rfl rfl ?_
      refine xr_iload_n C d_Ro_addAll_10 11 rfl rfl ?_
      refine xr_bald C d_Ro_addAll_11 12 rfl hq3 rfl hi2 (by omega) ?_
      refine xr_toi (hq2 i hi2).1 ?_
      refine xr_callV C (c_Ro_addByte (d := d') h4 (hq2 i hi2).2 (by rw [List.length_append, List.length_take, Nat.min_eq_left (by omega)]; exact hd') (by omega)) k_Ro_addByte d_Ro_addAll_12 15 rfl (by first | assumption | exact xup_self | exact (xup_ne (by assumption)).trans (by assumption) | exact (xup_ne (Ne.symm (by assumption))).trans (by assumption) | exact (xup_ne (by assumption)).trans xup_self | exact (xup_ne (Ne.symm (by assumption))).trans xup_self) rfl (Or.inl q_447) v_Ro_addByte e_Ro_addByte h_Ro_addByte rfl ⟨Nat.le_of_ble_eq_true rfl, Nat.le_of_ble_eq_true rfl, Nat.le_of_ble_eq_true rfl⟩ (by omega) (by omega) (fun v9 Y' hP => ?_) (fun _ _ h => absurd h.1 (by simp))
      obtain ⟨e1, e2⟩ := hP
      cases e1
      refine xG.wide (c2 := d' - cap) (s2 := 2 * (d' - cap)) (by omega) (by omega) ?_
      refine xr_iinc (v := 1) C d_Ro_addAll_15 18 rfl rfl rfl rfl (by decide) ?_
      refine xr_goto C d_Ro_addAll_18 2 (by decide) ?_
      refine xG.eqL (show _ = [some (Value.ref r), some (Value.ref q), some (Value.int (nI (i + 1)))] by rw [← nI_one]; rfl) ?_
      refine ih (i + 1) d' Y' (by omega) hl2 (by omega) ?_
      have e3 : more.take (i + 1) = more.take i ++ [more.getD i 0] := by
        rw [List.getD_eq_getElem?_getD, List.getElem?_eq_getElem hi2, Option.getD_some, List.take_append_getElem]
      rw [e3, ← List.append_assoc]
      exact xAdd.then h5 h6 e2
  refine xr_iconst (v := 0) C d_Ro_addAll_0 1 rfl (by decide) ?_
  refine xr_istore_n C d_Ro_addAll_1 2 rfl rfl rfl ?_
  refine xG.wide (c2 := cap - cap) (s2 := 2 * (cap - cap)) (by omega) (by omega) ?_
  refine loop more.length 0 cap X (by omega) hd (by omega) ⟨b, ?_, xFr.rf, Or.inl rfl⟩
  rw [List.take_zero, List.append_nil]
  exact hR
set_option maxRecDepth 100000 in
set_option maxHeartbeats 4000000 in
theorem c_Ro_copied {l : Launch} {D : va_G} {H0 : Heap} {X : xH} {r b cap : Nat} {bs : List Int32} (hR : xRow D X r b cap bs) (h0 : 0 < bs.length) (h256 : bs.length < 256) : xMet l D H0 y_Ro_copied b_Ro_copied 1 (some (.array .byte)) [] 1 1 256 [.ref r] X (fun o X' => ∃ q : Nat, o = .inl (some (.ref q)) ∧ X q = none ∧ xFr [] X X' ∧ xBy D X' q bs) := by
  obtain ⟨f, hr, hb, h1, h2, h3, h4, h5⟩ := hR
  refine ⟨[some (.ref r)], rfl, Nat.le_of_ble_eq_true rfl, fun E hD hH hl _ C => ?_⟩
  subst hD
  subst hH
  subst hl
  refine xr_aload_n C d_Ro_copied_0 1 rfl rfl ?_
  refine xr_get C K_Ro 0 d_Ro_copied_1 4 rfl q_107 (Or.inl rfl) rfl (by first | assumption | exact xup_self | exact (xup_ne (by assumption)).trans (by assumption) | exact (xup_ne (Ne.symm (by assumption))).trans (by assumption) | exact (xup_ne (by assumption)).trans xup_self | exact (xup_ne (Ne.symm (by assumption))).trans xup_self) rfl ?_
  refine xr_aload_n C d_Ro_copied_4 5 rfl rfl ?_
  refine xr_get C K_Ro 1 d_Ro_copied_5 8 rfl q_109 (Or.inl rfl) rfl (by first | assumption | exact xup_self | exact (xup_ne (by assumption)).trans (by assumption) | exact (xup_ne (Ne.symm (by assumption))).trans (by assumption) | exact (xup_ne (by assumption)).trans xup_self | exact (xup_ne (Ne.symm (by assumption))).trans xup_self) rfl ?_
  refine xG.wide (c2 := 0) (s2 := 256 - bs.length) (by omega) (by omega) ?_
  refine xr_callS C (c_AR_copyB hb (by omega) (by omega) (by omega) h0 h2) k_AR_copyB d_Ro_copied_8 11 rfl (Or.inl q_451) s_AR_copyB in_AR_copyB h_AR_copyB rfl ⟨Nat.le_of_ble_eq_true rfl, Nat.le_of_ble_eq_true rfl, Nat.le_of_ble_eq_true rfl⟩ (by omega) (by omega) (fun v9 X' hP => ?_) (fun _ _ h => by obtain ⟨q, h, -⟩ := h; cases h)
  obtain ⟨q, e1, e2, rfl⟩ := hP
  cases e1
  refine xr_aret C d_Ro_copied_11 (Or.inr ⟨_, rfl⟩) (by omega) (by omega) ⟨q, rfl, e2, xFr_new e2, (by omega), _, xup_self, fun i hi => ⟨?_, by rw [← h3 i hi]; exact h2 i (by omega)⟩⟩
  rw [if_neg (by omega), pk_cpy_in (by omega) (by omega), show 0 + (i - 0) = i by omega]
  exact h3 i hi
