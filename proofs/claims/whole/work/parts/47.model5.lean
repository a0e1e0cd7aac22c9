/-! The model: sessions. -/
def sSlot (s : MS) (e : Nat) (x : Ss) : Prop := s.2.1 2 e = x.1 ∧ s.2.1 3 e = x.2.1 ∧ s.2.1 4 e = x.2.2.1 ∧ s.2.1 5 e = x.2.2.2.1 ∧ s.2.1 6 e = nI x.2.2.2.2.length ∧ ∀ k, k < x.2.2.2.2.length → s.2.1 7 (104 * e + k) = u8 (x.2.2.2.2.getD k 0)
def rS (s : MS) (m : Nat) (ss : List Ss) : Prop := s.2.1 1 m = nI ss.length ∧ ∀ i, i < ss.length → sSlot s (16 * m + i) (sD ss i)
theorem sSlot.fr {s s' : MS} {e : Nat} {x : Ss} {a : List Nat} (h : sSlot s e x) (hf : mFr a s s') (h1 : 2 ∉ a ∧ 3 ∉ a ∧ 4 ∉ a ∧ 5 ∉ a ∧ 6 ∉ a ∧ 7 ∉ a) : sSlot s' e x := by
  obtain ⟨a1, a2, a3, a4, a5, a6⟩ := h
  obtain ⟨b1, b2, b3, b4, b5, b6⟩ := h1
  exact ⟨by rw [(hf 2 b1).2.1]; exact a1, by rw [(hf 3 b2).2.1]; exact a2, by rw [(hf 4 b3).2.1]; exact a3, by rw [(hf 5 b4).2.1]; exact a4, by rw [(hf 6 b5).2.1]; exact a5, fun k hk => by rw [(hf 7 b6).2.1]; exact a6 k hk⟩
theorem rS.fr {s s' : MS} {m : Nat} {ss : List Ss} {a : List Nat} (h : rS s m ss) (hf : mFr a s s') (h1 : 1 ∉ a ∧ 2 ∉ a ∧ 3 ∉ a ∧ 4 ∉ a ∧ 5 ∉ a ∧ 6 ∉ a ∧ 7 ∉ a) : rS s' m ss := ⟨by rw [(hf 1 h1.1).2.1]; exact h.1, fun i hi => (h.2 i hi).fr hf h1.2⟩
/-- the other machine's sessions are as they were -/
def othS (m : Nat) (s s' : MS) : Prop := ∀ q ss, q < 2 → q ≠ m → okS ss → rS s q ss → rS s' q ss
theorem othS.rf {m : Nat} {s : MS} : othS m s s := fun _ _ _ _ _ h => h
theorem othS.trans {m : Nat} {s s' s'' : MS} (h1 : othS m s s') (h2 : othS m s' s'') : othS m s s'' := fun q es a b c h => h2 q es a b c (h1 q es a b c h)
theorem othS.fr {m : Nat} {s s' : MS} {a : List Nat} (hf : mFr a s s') (h1 : 1 ∉ a ∧ 2 ∉ a ∧ 3 ∉ a ∧ 4 ∉ a ∧ 5 ∉ a ∧ 6 ∉ a ∧ 7 ∉ a) : othS m s s' := fun _ _ _ _ _ h => h.fr hf h1
set_option maxRecDepth 100000 in
set_option maxHeartbeats 4000000 in
theorem c_Mo_copySession {l : Launch} {D : va_G} {H0 : Heap} {X0 : xH} {A : Nat → Nat} {s : MS} (hA : mInj A) {f t : Nat} {x0 : Ss} (hf : f < 32) (ht : t < 32) (hx : sSlot s f x0) (hx2 : x0.2.2.2.2.length ≤ 104) : xMet l D H0 y_Mo_copySession b_Mo_copySession 4 none [] 0 0 0 [.ref (A 0), .int (nI f), .int (nI t)] (mX D X0 A s) (fun o X' => o = .inl none ∧ ∃ s', X' = mX D X0 A s' ∧ mFr [2, 3, 4, 5, 6, 7] s s' ∧ (∀ e x, e ≠ t → x.2.2.2.2.length ≤ 104 → sSlot s e x → sSlot s' e x) ∧ sSlot s' t x0) := by
  refine ⟨[some (.ref (A 0)), some (.int (nI f)), some (.int (nI t)), none], rfl, Nat.le_of_ble_eq_true rfl, fun E hD hH hl _ C => ?_⟩
  subst hD
  subst hH
  subst hl
  refine xr_aload_n C d_Mo_copySession_0 1 rfl rfl ?_
  refine xr_get C K_Mo 2 d_Mo_copySession_1 4 rfl q_942 (Or.inl rfl) rfl (mX_o hA) rfl ?_
  refine xr_iload_n C d_Mo_copySession_4 5 rfl rfl ?_
  refine xr_aload_n C d_Mo_copySession_5 6 rfl rfl ?_
  refine xr_get C K_Mo 2 d_Mo_copySession_6 9 rfl q_942 (Or.inl rfl) rfl (mX_o hA) rfl ?_
  refine xr_iload_n C d_Mo_copySession_9 10 rfl rfl ?_
  refine xr_iald (j := f) C d_Mo_copySession_10 11 rfl (mX_2 hA) rfl (by omega) (by omega) ?_
  refine xr_iast (j := t) C d_Mo_copySession_11 12 rfl (mX_2 hA) rfl (by omega) (by omega) ?_
  obtain ⟨z1, hz1⟩ : ∃ zz9, zz9 = setI s 2 t (s.2.1 2 f) := ⟨_, rfl⟩
  refine xG.eqX (show _ = mX E.D X0 A z1 from (mX_s2 (v := (s.2.1 2 f)) hA).trans (by rw [hz1])) ?_
  refine xr_aload_n C d_Mo_copySession_12 13 rfl rfl ?_
  refine xr_get C K_Mo 3 d_Mo_copySession_13 16 rfl q_943 (Or.inl rfl) rfl (mX_o hA) rfl ?_
  refine xr_iload_n C d_Mo_copySession_16 17 rfl rfl ?_
  refine xr_aload_n C d_Mo_copySession_17 18 rfl rfl ?_
  refine xr_get C K_Mo 3 d_Mo_copySession_18 21 rfl q_943 (Or.inl rfl) rfl (mX_o hA) rfl ?_
  refine xr_iload_n C d_Mo_copySession_21 22 rfl rfl ?_
  refine xr_iald (j := f) C d_Mo_copySession_22 23 rfl (mX_3 hA) rfl (by omega) (by omega) ?_
  refine xr_iast (j := t) C d_Mo_copySession_23 24 rfl (mX_3 hA) rfl (by omega) (by omega) ?_
  obtain ⟨z2, hz2⟩ : ∃ zz9, zz9 = setI z1 3 t (z1.2.1 3 f) := ⟨_, rfl⟩
  refine xG.eqX (show _ = mX E.D X0 A z2 from (mX_s3 (v := (z1.2.1 3 f)) hA).trans (by rw [hz2])) ?_
  refine xr_aload_n C d_Mo_copySession_24 25 rfl rfl ?_
  refine xr_get C K_Mo 4 d_Mo_copySession_25 28 rfl q_944 (Or.inl rfl) rfl (mX_o hA) rfl ?_
  refine xr_iload_n C d_Mo_copySession_28 29 rfl rfl ?_
  refine xr_aload_n C d_Mo_copySession_29 30 rfl rfl ?_
  refine xr_get C K_Mo 4 d_Mo_copySession_30 33 rfl q_944 (Or.inl rfl) rfl (mX_o hA) rfl ?_
  refine xr_iload_n C d_Mo_copySession_33 34 rfl rfl ?_
  refine xr_iald (j := f) C d_Mo_copySession_34 35 rfl (mX_4 hA) rfl (by omega) (by omega) ?_
  refine xr_iast (j := t) C d_Mo_copySession_35 36 rfl (mX_4 hA) rfl (by omega) (by omega) ?_
  obtain ⟨z3, hz3⟩ : ∃ zz9, zz9 = setI z2 4 t (z2.2.1 4 f) := ⟨_, rfl⟩
  refine xG.eqX (show _ = mX E.D X0 A z3 from (mX_s4 (v := (z2.2.1 4 f)) hA).trans (by rw [hz3])) ?_
  refine xr_aload_n C d_Mo_copySession_36 37 rfl rfl ?_
  refine xr_get C K_Mo 5 d_Mo_copySession_37 40 rfl q_945 (Or.inl rfl) rfl (mX_o hA) rfl ?_
  refine xr_iload_n C d_Mo_copySession_40 41 rfl rfl ?_
  refine xr_aload_n C d_Mo_copySession_41 42 rfl rfl ?_
  refine xr_get C K_Mo 5 d_Mo_copySession_42 45 rfl q_945 (Or.inl rfl) rfl (mX_o hA) rfl ?_
  refine xr_iload_n C d_Mo_copySession_45 46 rfl rfl ?_
  refine xr_iald (j := f) C d_Mo_copySession_46 47 rfl (mX_5 hA) rfl (by omega) (by omega) ?_
  refine xr_iast (j := t) C d_Mo_copySession_47 48 rfl (mX_5 hA) rfl (by omega) (by omega) ?_
  obtain ⟨z4, hz4⟩ : ∃ zz9, zz9 = setI z3 5 t (z3.2.1 5 f) := ⟨_, rfl⟩
  refine xG.eqX (show _ = mX E.D X0 A z4 from (mX_s5 (v := (z3.2.1 5 f)) hA).trans (by rw [hz4])) ?_
  refine xr_aload_n C d_Mo_copySession_48 49 rfl rfl ?_
  refine xr_get C K_Mo 6 d_Mo_copySession_49 52 rfl q_946 (Or.inl rfl) rfl (mX_o hA) rfl ?_
  refine xr_iload_n C d_Mo_copySession_52 53 rfl rfl ?_
  refine xr_aload_n C d_Mo_copySession_53 54 rfl rfl ?_
  refine xr_get C K_Mo 6 d_Mo_copySession_54 57 rfl q_946 (Or.inl rfl) rfl (mX_o hA) rfl ?_
  refine xr_iload_n C d_Mo_copySession_57 58 rfl rfl ?_
  refine xr_iald (j := f) C d_Mo_copySession_58 59 rfl (mX_6 hA) rfl (by omega) (by omega) ?_
  refine xr_iast (j := t) C d_Mo_copySession_59 60 rfl (mX_6 hA) rfl (by omega) (by omega) ?_
  obtain ⟨z5, hz5⟩ : ∃ zz9, zz9 = setI z4 6 t (z4.2.1 6 f) := ⟨_, rfl⟩
  refine xG.eqX (show _ = mX E.D X0 A z5 from (mX_s6 (v := (z4.2.1 6 f)) hA).trans (by rw [hz5])) ?_
  have bI : ∀ k i, z5.2.1 k i = if (k = 2 ∨ k = 3 ∨ k = 4 ∨ k = 5 ∨ k = 6) ∧ i = t then s.2.1 k f else s.2.1 k i := by
    intro k i
    simp only [hz5, hz4, hz3, hz2, hz1, setI_I]
    by_cases hi : i = t
    · subst hi
      by_cases k6 : k = 6
      · subst k6; simp
      · by_cases k5 : k = 5
        · subst k5; simp
        · by_cases k4 : k = 4
          · subst k4; simp
          · by_cases k3 : k = 3
            · subst k3; simp
            · by_cases k2 : k = 2
              · subst k2; simp
              · simp [k2, k3, k4, k5, k6]
    · simp [hi]
  have bf : mFr [2, 3, 4, 5, 6, 7] s z5 := by
    rw [hz5, hz4, hz3, hz2, hz1]
    exact ((((mFr_I (by decide)).trans (mFr_I (by decide))).trans (mFr_I (by decide))).trans (mFr_I (by decide))).trans (mFr_I (by decide))
  clear hz5 hz4 hz3 hz2 hz1
  obtain ⟨L, hL⟩ : ∃ L, L = x0.2.2.2.2.length := ⟨_, rfl⟩
  have hx6 : s.2.1 6 f = nI L := by rw [hL]; exact hx.2.2.2.2.1
  have loop : ∀ (k i : Nat) (z : MS), i + k = L → mFr [7] z5 z → (∀ q, q < i → z.2.1 7 (104 * t + q) = s.2.1 7 (104 * f + q)) → (∀ j, (j < 104 * t ∨ 104 * t + i ≤ j) → z.2.1 7 j = s.2.1 7 j) → xG E (mX E.D X0 A z) 0 0 62 [some (.ref (A 0)), some (.int (nI f)), some (.int (nI t)), some (.int (nI i))] [] := by
    intro k
    induction k with
    | zero =>
      intro i z hi h1 h2 h3
      have h6 : z.2.1 6 f = nI L := by
        rw [(h1 6 (by decide)).2.1, bI]
        split
        · exact hx6
        · exact hx6
      refine xr_iload_n C d_Mo_copySession_62 63 rfl rfl ?_
      refine xr_aload_n C d_Mo_copySession_63 64 rfl rfl ?_
      refine xr_get C K_Mo 6 d_Mo_copySession_64 67 rfl q_946 (Or.inl rfl) rfl (mX_o hA) rfl ?_
      refine xr_iload_n C d_Mo_copySession_67 68 rfl rfl ?_
      refine xr_iald (j := f) C d_Mo_copySession_68 69 rfl (mX_6 hA) rfl (by omega) (by omega) ?_
      refine xr_toi (show _ = nI L from h6) ?_
      refine xr_icmp_ge C d_Mo_copySession_69 72 100 rfl (by decide) (fun _ => ?_) (fun h => absurd (nI_le (show L ≤ i by omega) (by omega)) h)
      have g : ∀ k, k ≠ 7 → z.2.1 k = z5.2.1 k := fun k hk => (h1 k (by simpa using hk)).2.1
      refine xr_vret C d_Mo_copySession_100 (by omega) (by omega) ⟨rfl, z, rfl, bf.trans (h1.mono (by decide)), fun e x hne hxl hsx => ⟨?_, ?_, ?_, ?_, ?_, fun q hq => ?_⟩, ⟨?_, ?_, ?_, ?_, ?_, fun q hq => ?_⟩⟩
      · rw [g 2 (by decide), bI, if_neg (fun q => hne q.2)]; exact hsx.1
      · rw [g 3 (by decide), bI, if_neg (fun q => hne q.2)]; exact hsx.2.1
      · rw [g 4 (by decide), bI, if_neg (fun q => hne q.2)]; exact hsx.2.2.1
      · rw [g 5 (by decide), bI, if_neg (fun q => hne q.2)]; exact hsx.2.2.2.1
      · rw [g 6 (by decide), bI, if_neg (fun q => hne q.2)]; exact hsx.2.2.2.2.1
      · rw [h3 _ (by omega)]; exact hsx.2.2.2.2.2 q hq
      · rw [g 2 (by decide), bI, if_pos ⟨by decide, rfl⟩]; exact hx.1
      · rw [g 3 (by decide), bI, if_pos ⟨by decide, rfl⟩]; exact hx.2.1
      · rw [g 4 (by decide), bI, if_pos ⟨by decide, rfl⟩]; exact hx.2.2.1
      · rw [g 5 (by decide), bI, if_pos ⟨by decide, rfl⟩]; exact hx.2.2.2.1
      · rw [g 6 (by decide), bI, if_pos ⟨by decide, rfl⟩]; exact hx.2.2.2.2.1
      · rw [h2 q (by omega)]; exact hx.2.2.2.2.2 q hq
    | succ k ih =>
      intro i z hi h1 h2 h3
      have h6 : z.2.1 6 f = nI L := by
        rw [(h1 6 (by decide)).2.1, bI]
        split
        · exact hx6
        · exact hx6
      refine xr_iload_n C d_Mo_copySession_62 63 rfl rfl ?_
      refine xr_aload_n C d_Mo_copySession_63 64 rfl rfl ?_
      refine xr_get C K_Mo 6 d_Mo_copySession_64 67 rfl q_946 (Or.inl rfl) rfl (mX_o hA) rfl ?_
      refine xr_iload_n C d_Mo_copySession_67 68 rfl rfl ?_
      refine xr_iald (j := f) C d_Mo_copySession_68 69 rfl (mX_6 hA) rfl (by omega) (by omega) ?_
      refine xr_toi (show _ = nI L from h6) ?_
      refine xr_icmp_ge C d_Mo_copySession_69 72 100 rfl (by decide) (fun h => absurd h (nI_ge (show i < L by omega) (by omega))) (fun _ => ?_)
      refine xr_aload_n C d_Mo_copySession_72 73 rfl rfl ?_
      refine xr_get C K_Mo 7 d_Mo_copySession_73 76 rfl q_947 (Or.inl rfl) rfl (mX_o hA) rfl ?_
      refine xr_bipush (v := 104) C d_Mo_copySession_76 78 rfl (by decide) ?_
      refine xr_iload_n C d_Mo_copySession_78 79 rfl rfl ?_
      refine xr_imul C d_Mo_copySession_79 80 rfl ?_
      refine xr_toi (show _ = nI (104 * t) from pk_mul 104 t) ?_
      refine xr_iload_n C d_Mo_copySession_80 81 rfl rfl ?_
      refine xr_iadd C d_Mo_copySession_81 82 rfl ?_
      refine xr_toi (show _ = nI ((104 * t) + i) from nI_add (104 * t) i) ?_
      refine xr_aload_n C d_Mo_copySession_82 83 rfl rfl ?_
      refine xr_get C K_Mo 7 d_Mo_copySession_83 86 rfl q_947 (Or.inl rfl) rfl (mX_o hA) rfl ?_
      refine xr_bipush (v := 104) C d_Mo_copySession_86 88 rfl (by decide) ?_
      refine xr_iload_n C d_Mo_copySession_88 89 rfl rfl ?_
      refine xr_imul C d_Mo_copySession_89 90 rfl ?_
      refine xr_toi (show _ = nI (104 * f) from pk_mul 104 f) ?_
      refine xr_iload_n C d_Mo_copySession_90 91 rfl rfl ?_
      refine xr_iadd C d_Mo_copySession_91 92 rfl ?_
      refine xr_toi (show _ = nI ((104 * f) + i) from nI_add (104 * f) i) ?_
      refine xr_iald (j := ((104 * f) + i)) C d_Mo_copySession_92 93 rfl (mX_7 hA) rfl (by omega) (by omega) ?_
      refine xr_iast (j := ((104 * t) + i)) C d_Mo_copySession_93 94 rfl (mX_7 hA) rfl (by omega) (by omega) ?_
      obtain ⟨y, hy⟩ : ∃ zz9, zz9 = setI z 7 ((104 * t) + i) (z.2.1 7 ((104 * f) + i)) := ⟨_, rfl⟩
      refine xG.eqX (show _ = mX E.D X0 A y from (mX_s7 (v := (z.2.1 7 ((104 * f) + i))) hA).trans (by rw [hy])) ?_
      refine xr_iinc (v := 1) C d_Mo_copySession_94 97 rfl rfl rfl rfl (by decide) ?_
      refine xr_goto C d_Mo_copySession_97 62 (by decide) ?_
      refine xG.eqL (show _ = [some (Value.ref (A 0)), some (Value.int (nI f)), some (Value.int (nI t)), some (Value.int (nI (i + 1)))] by rw [← nI_one]; rfl) ?_
      refine ih (i + 1) y (by omega) (by rw [hy]; exact h1.trans (mFr_I (by decide))) (fun q hq => ?_) (fun j hj => ?_)
      · rw [hy, setI_I]
        by_cases e : q = i
        · rw [if_pos ⟨rfl, by omega⟩, e]
          exact h3 _ (by omega)
        · rw [if_neg (by omega)]
          exact h2 q (by omega)
      · rw [hy, setI_I, if_neg (by omega)]
        exact h3 j (by omega)
  refine xr_iconst (v := 0) C d_Mo_copySession_60 61 rfl (by decide) ?_
  refine xr_istore_n C d_Mo_copySession_61 62 rfl rfl rfl ?_
  refine loop L 0 z5 (by omega) mFr.rf (fun q hq => absurd hq (Nat.not_lt_zero _)) (fun j _ => by rw [bI, if_neg (by omega)])
def dst (ss : List Ss) (g : Int32) : Prop := (∀ i, i < ss.length → (sD ss i).1 ≤ g) ∧ ∀ i j, i < ss.length → j < ss.length → (sD ss i).1 = (sD ss j).1 → i = j
theorem fsn_hit {n : Int32} : ∀ {ss : List Ss}, fsn ss n < ss.length → (sD ss (fsn ss n)).1 = n
  | [], h => absurd h (Nat.not_lt_zero _)
  | s :: ss, h => by
    unfold fsn at h ⊢
    by_cases e : s.1 = n
    · rw [if_pos e]
      exact e
    · rw [if_neg e] at h ⊢
      exact fsn_hit (ss := ss) (by rw [List.length_cons] at h; omega)
theorem fsn_min {n : Int32} : ∀ {ss : List Ss} {i : Nat}, i < ss.length → (sD ss i).1 = n → fsn ss n ≤ i
  | [], i, h, _ => absurd h (Nat.not_lt_zero _)
  | s :: ss, 0, h, e => by
    have e1 : s.1 = n := e
    unfold fsn
    rw [if_pos e1]
    exact Nat.le_refl _
  | s :: ss, i + 1, h, e => by
    unfold fsn
    split
    · omega
    · have := fsn_min (ss := ss) (i := i) (by rw [List.length_cons] at h; omega) e
      omega
set_option maxRecDepth 100000 in
set_option maxHeartbeats 4000000 in
theorem c_Mo_find {l : Launch} {D : va_G} {H0 : Heap} {X0 : xH} {A : Nat → Nat} {s : MS} (hA : mInj A) {m : Nat} {ss : List Ss} {g v : Int32} (hm : m < 2) (hS : rS s m ss) (h16 : ss.length ≤ 16) (hd : dst ss g) : xMet l D H0 y_Mo_find b_Mo_find 5 (some .int) [] 0 0 0 [.ref (A 0), .int (nI m), .int v] (mX D X0 A s) (fun o X' => o = .inl (some (.int (if fsn ss v < ss.length then nI (16 * m + fsn ss v) else -1))) ∧ X' = mX D X0 A s) := by
  refine ⟨[some (.ref (A 0)), some (.int (nI m)), some (.int v), none, none], rfl, Nat.le_of_ble_eq_true rfl, fun E hD hH hl _ C => ?_⟩
  subst hD
  subst hH
  subst hl
  have loop : ∀ (k i : Nat), i + k = ss.length → xG E (mX E.D X0 A s) 0 0 8 [some (.ref (A 0)), some (.int (nI m)), some (.int v), some (.int (if fsn ss v < i then nI (16 * m + fsn ss v) else -1)), some (.int (nI (16 * m + i)))] [] := by
    intro k
    induction k with
    | zero =>
      intro i hi
      refine xr_iload C d_Mo_find_8 10 rfl rfl ?_
      refine xr_bipush (v := 16) C d_Mo_find_10 12 rfl (by decide) ?_
      refine xr_iload_n C d_Mo_find_12 13 rfl rfl ?_
      refine xr_imul C d_Mo_find_13 14 rfl ?_
      refine xr_toi (show _ = nI (16 * m) from pk_mul 16 m) ?_
      refine xr_aload_n C d_Mo_find_14 15 rfl rfl ?_
      refine xr_get C K_Mo 1 d_Mo_find_15 18 rfl q_941 (Or.inl rfl) rfl (mX_o hA) rfl ?_
      refine xr_iload_n C d_Mo_find_18 19 rfl rfl ?_
      refine xr_iald (j := m) C d_Mo_find_19 20 rfl (mX_1 hA) rfl (by omega) (by omega) ?_
      refine xr_toi (show _ = nI ss.length from hS.1) ?_
      refine xr_iadd C d_Mo_find_20 21 rfl ?_
      refine xr_toi (show _ = nI ((16 * m) + ss.length) from nI_add (16 * m) ss.length) ?_
      refine xr_icmp_ge C d_Mo_find_21 24 48 rfl (by decide) (fun _ => ?_) (fun h => absurd (nI_le (show 16 * m + ss.length ≤ 16 * m + i by omega) (by omega)) h)
      refine xr_iload_n C d_Mo_find_48 49 rfl rfl ?_
      exact xr_iret C d_Mo_find_49 (by omega) (by omega) ⟨by rw [show i = ss.length by omega], rfl⟩
    | succ k ih =>
      intro i hi
      have i1 : i < ss.length := by omega
      have t41 : ∀ c : Int32, c = (if fsn ss v < i + 1 then nI (16 * m + fsn ss v) else -1) → xG E (mX E.D X0 A s) 0 0 41 [some (.ref (A 0)), some (.int (nI m)), some (.int v), some (.int (if fsn ss v < i then nI (16 * m + fsn ss v) else -1)), some (.int (nI (16 * m + i)))] [.int c] := by
        intro c hc
        rw [hc]
        refine xr_istore_n C d_Mo_find_41 42 rfl rfl rfl ?_
        refine xr_iinc (v := 1) C d_Mo_find_42 45 rfl rfl rfl rfl (by decide) ?_
        refine xr_goto C d_Mo_find_45 8 (by decide) ?_
        refine xG.eqL (show _ = [some (Value.ref (A 0)), some (Value.int (nI m)), some (Value.int v), some (Value.int (if fsn ss v < i + 1 then nI (16 * m + fsn ss v) else -1)), some (Value.int (nI (16 * m + (i + 1))))] by rw [show 16 * m + (i + 1) = 16 * m + i + 1 by omega, ← nI_one (16 * m + i)]; rfl) ?_
        exact ih (i + 1) (by omega)
      refine xr_iload C d_Mo_find_8 10 rfl rfl ?_
      refine xr_bipush (v := 16) C d_Mo_find_10 12 rfl (by decide) ?_
      refine xr_iload_n C d_Mo_find_12 13 rfl rfl ?_
      refine xr_imul C d_Mo_find_13 14 rfl ?_
      refine xr_toi (show _ = nI (16 * m) from pk_mul 16 m) ?_
      refine xr_aload_n C d_Mo_find_14 15 rfl rfl ?_
      refine xr_get C K_Mo 1 d_Mo_find_15 18 rfl q_941 (Or.inl rfl) rfl (mX_o hA) rfl ?_
      refine xr_iload_n C d_Mo_find_18 19 rfl rfl ?_
      refine xr_iald (j := m) C d_Mo_find_19 20 rfl (mX_1 hA) rfl (by omega) (by omega) ?_
      refine xr_toi (show _ = nI ss.length from hS.1) ?_
      refine xr_iadd C d_Mo_find_20 21 rfl ?_
      refine xr_toi (show _ = nI ((16 * m) + ss.length) from nI_add (16 * m) ss.length) ?_
      refine xr_icmp_ge C d_Mo_find_21 24 48 rfl (by decide) (fun h => absurd h (nI_ge (show 16 * m + i < 16 * m + ss.length by omega) (by omega))) (fun _ => ?_)
      refine xr_aload_n C d_Mo_find_24 25 rfl rfl ?_
      refine xr_get C K_Mo 2 d_Mo_find_25 28 rfl q_942 (Or.inl rfl) rfl (mX_o hA) rfl ?_
      refine xr_iload C d_Mo_find_28 30 rfl rfl ?_
      refine xr_iald (j := (16 * m + i)) C d_Mo_find_30 31 rfl (mX_2 hA) rfl (by omega) (by omega) ?_
      refine xr_toi (show _ = (sD ss i).1 from (hS.2 i i1).1) ?_
      refine xr_iload_n C d_Mo_find_31 32 rfl rfl ?_
      refine xr_icmp_ne C d_Mo_find_32 35 40 rfl (by decide) (fun h32 => ?_) (fun h32 => ?_)
      · refine xr_iload_n C d_Mo_find_40 41 rfl rfl ?_
        refine t41 _ ?_
        have hne : fsn ss v ≠ i := fun e => h32 (by rw [← e]; exact fsn_hit (by omega))
        by_cases hl : fsn ss v < i
        · rw [if_pos hl, if_pos (by omega)]
        · rw [if_neg hl, if_neg (by omega)]
      · refine xr_iload C d_Mo_find_35 37 rfl rfl ?_
        refine xr_goto C d_Mo_find_37 41 (by decide) ?_
        refine t41 _ ?_
        have hmin := fsn_min i1 h32
        have heq : fsn ss v = i := hd.2 _ _ (by omega) i1 (by rw [fsn_hit (by omega), h32])
        rw [if_pos (by omega), heq]
  refine xr_iconst (v := (-1)) C d_Mo_find_0 1 rfl (by decide) ?_
  refine xr_istore_n C d_Mo_find_1 2 rfl rfl rfl ?_
  refine xr_bipush (v := 16) C d_Mo_find_2 4 rfl (by decide) ?_
  refine xr_iload_n C d_Mo_find_4 5 rfl rfl ?_
  refine xr_imul C d_Mo_find_5 6 rfl ?_
  refine xr_toi (show _ = nI (16 * m) from pk_mul 16 m) ?_
  refine xr_istore C d_Mo_find_6 8 rfl rfl rfl ?_
  refine xG.eqL (show _ = [some (Value.ref (A 0)), some (Value.int (nI m)), some (Value.int v), some (Value.int (if fsn ss v < 0 then nI (16 * m + fsn ss v) else -1)), some (Value.int (nI (16 * m + 0)))] by rw [if_neg (Nat.not_lt_zero _)]; rfl) ?_
  exact loop ss.length 0 (by omega)
abbrev fitP (p k v n : Nat) : Prop := (1 ≤ k ∧ k ≤ 32) ∧ v ≤ 100 ∧ (p = 1 ∨ v = 0) ∧ k + v ≤ n ∧ (if p < 2 then n ≤ k + v + 100 else if p = 4 then k + v + 1 ≤ n ∧ n ≤ k + v + 32 else n = k + v)
theorem fit_op {s n : Nat} (h : s % 8 ≤ 2) : fitP (s % 8) (s / 8 % 64) (s / 512) n ↔ okOp s n := by
  unfold fitP okOp
  have h3 : s % 8 = 0 ∨ s % 8 = 1 ∨ s % 8 = 2 := by omega
  rcases h3 with e | e | e <;> simp [e] <;> omega
theorem fit_rd {s n : Nat} (h : 3 ≤ s % 8 ∧ s % 8 ≤ 5) : fitP (s % 8) (s / 8 % 64) (s / 512) n ↔ okRd s n := by
  unfold fitP okRd
  have h3 : s % 8 = 3 ∨ s % 8 = 4 ∨ s % 8 = 5 := by omega
  rcases h3 with e | e | e <;> simp [e] <;> omega
theorem i0 : (0 : Int32).toInt = 0 := rfl
theorem i1' : (1 : Int32).toInt = 1 := rfl
theorem i32 : (32 : Int32).toInt = 32 := rfl
theorem i100 : (100 : Int32).toInt = 100 := rfl
set_option maxRecDepth 100000 in
set_option maxHeartbeats 4000000 in
theorem c_Mo_fits {l : Launch} {D : va_G} {H0 : Heap} {X : xH} {p k v n : Nat} (hp : p < 8) (hk : k < 64) (hv : v < 2 ^ 23) (hn : n ≤ 300) : xMet l D H0 y_Mo_fits b_Mo_fits 5 (some .boolean) [] 1 0 0 [.int (nI p), .int (nI k), .int (nI v), .int (nI n)] X (fun o X' => o = .inl (some (.int (if fitP p k v n then 1 else 0))) ∧ X' = X) := by
  refine ⟨[some (.int (nI p)), some (.int (nI k)), some (.int (nI v)), some (.int (nI n)), none], rfl, Nat.le_of_ble_eq_true rfl, fun E hD hH hl _ C => ?_⟩
  subst hD
  subst hH
  subst hl
  have hr := sub3_int (a := n) (b := k) (c := v) (by omega) (by omega) (by omega)
  have no : ¬ fitP p k v n → xG E X 0 0 37 [some (.int (nI p)), some (.int (nI k)), some (.int (nI v)), some (.int (nI n)), some (.int (nI n - nI k - nI v))] [] := by
    intro h
    refine xr_iconst (v := 0) C d_Mo_fits_37 38 rfl (by decide) ?_
    exact xr_zret C d_Mo_fits_38 rfl (by omega) (by omega) ⟨by rw [if_neg h], rfl⟩
  refine xr_iload_n C d_Mo_fits_0 1 rfl rfl ?_
  refine xr_iload_n C d_Mo_fits_1 2 rfl rfl ?_
  refine xr_isub C d_Mo_fits_2 3 rfl ?_
  refine xr_iload_n C d_Mo_fits_3 4 rfl rfl ?_
  refine xr_isub C d_Mo_fits_4 5 rfl ?_
  refine xr_istore C d_Mo_fits_5 7 rfl rfl rfl ?_
  refine xr_iload_n C d_Mo_fits_7 8 rfl rfl ?_
  refine xr_iconst (v := 1) C d_Mo_fits_8 9 rfl (by decide) ?_
  refine xr_bipush (v := 32) C d_Mo_fits_9 11 rfl (by decide) ?_
  refine xr_callS C (c_Mo_within) k_Mo_within d_Mo_fits_11 14 rfl (Or.inl q_1020) s_Mo_within in_Mo_within h_Mo_within rfl ⟨Nat.le_of_ble_eq_true rfl, Nat.le_of_ble_eq_true rfl, Nat.le_of_ble_eq_true rfl⟩ (by omega) (by omega) (fun v9 X hP => ?_) (fun _ _ h => absurd h.1 (by simp))
  obtain ⟨h1, rfl⟩ := hP
  cases h1
  by_cases g1 : (1 : Int32) ≤ nI k ∧ nI k ≤ 32
  rotate_left
  · refine xr_toi (if_neg g1) ?_
    refine xr_if_eq C d_Mo_fits_14 17 37 rfl (by decide) (fun _ => no (fun q => g1 ⟨nI_le (a := 1) q.1.1 (by omega), nI_le (b := 32) q.1.2 (by omega)⟩)) (fun h => absurd rfl h)
  have k1 : 1 ≤ k := (nI_leI (a := 1) (by omega) (by omega)).mp g1.1
  have k2 : k ≤ 32 := (nI_leI (b := 32) (by omega) (by omega)).mp g1.2
  refine xr_toi (if_pos g1) ?_
  refine xr_if_eq C d_Mo_fits_14 17 37 rfl (by decide) (fun h => absurd h (by decide)) (fun _ => ?_)
  refine xr_iload_n C d_Mo_fits_17 18 rfl rfl ?_
  refine xr_bipush (v := 100) C d_Mo_fits_18 20 rfl (by decide) ?_
  refine xr_toi (show _ = nI 100 from rfl) ?_
  refine xr_icmp_gt C d_Mo_fits_20 23 37 rfl (by decide) (fun h => no (fun q => nI_nlt q.2.1 (by omega) h)) (fun h20 => ?_)
  have v1 : v ≤ 100 := by
    rcases Nat.lt_or_ge 100 v with h | h
    · exact absurd (nI_lt h (by omega)) h20
    · exact h
  have t32 : (p = 1 ∨ v = 0) → xG E X 0 0 32 [some (.int (nI p)), some (.int (nI k)), some (.int (nI v)), some (.int (nI n)), some (.int (nI n - nI k - nI v))] [] := by
    intro pv
    refine xr_iload C d_Mo_fits_32 34 rfl rfl ?_
    refine xr_if_ge C d_Mo_fits_34 37 39 rfl (by decide) (fun h34 => ?_) (fun h34 => no (fun q => h34 ((le_int i0 hr).mpr (by have := q.2.2.2.1; omega))))
    have r0 : k + v ≤ n := by
      have := (le_int i0 hr).mp h34
      omega
    refine xr_iload_n C d_Mo_fits_39 40 rfl rfl ?_
    refine xr_iconst (v := 2) C d_Mo_fits_40 41 rfl (by decide) ?_
    refine xr_toi (show _ = nI 2 from rfl) ?_
    refine xr_icmp_ge C d_Mo_fits_41 44 59 rfl (by decide) (fun h41 => ?_) (fun h41 => ?_)
    · have p2 : ¬ p < 2 := fun q => nI_ge q (by omega) h41
      refine xr_iload_n C d_Mo_fits_59 60 rfl rfl ?_
      refine xr_iconst (v := 4) C d_Mo_fits_60 61 rfl (by decide) ?_
      refine xr_toi (show _ = nI 4 from rfl) ?_
      refine xr_icmp_ne C d_Mo_fits_61 64 75 rfl (by decide) (fun h61 => ?_) (fun h61 => ?_)
      · have p4 : ¬ p = 4 := fun e => h61 (by rw [e])
        refine xr_iload C d_Mo_fits_75 77 rfl rfl ?_
        refine xr_if_ne C d_Mo_fits_77 80 84 rfl (by decide) (fun h77 => ?_) (fun h77 => ?_)
        · refine xr_iconst (v := 0) C d_Mo_fits_84 85 rfl (by decide) ?_
          exact xr_zret C d_Mo_fits_85 rfl (by omega) (by omega) ⟨by rw [if_neg (fun q => h77 (Int32.toInt_inj.mp (hr.trans (by have h9 := q.2.2.2.2; rw [if_neg p2, if_neg p4] at h9; rw [i0]; omega))))], rfl⟩
        · refine xr_iconst (v := 1) C d_Mo_fits_80 81 rfl (by decide) ?_
          refine xr_goto C d_Mo_fits_81 85 (by decide) ?_
          have h9 : (n : Int) - k - v = 0 := by
            rw [← hr, h77]
            rfl
          exact xr_zret C d_Mo_fits_85 rfl (by omega) (by omega) ⟨by rw [if_pos ⟨⟨k1, k2⟩, v1, pv, r0, by rw [if_neg p2, if_neg p4]; omega⟩], rfl⟩
      · have p4 : p = 4 := (nI_eq (by omega) (by omega)).mp h61
        refine xr_iload C d_Mo_fits_64 66 rfl rfl ?_
        refine xr_iconst (v := 1) C d_Mo_fits_66 67 rfl (by decide) ?_
        refine xr_bipush (v := 32) C d_Mo_fits_67 69 rfl (by decide) ?_
        refine xr_callS C (c_Mo_within) k_Mo_within d_Mo_fits_69 72 rfl (Or.inl q_1020) s_Mo_within in_Mo_within h_Mo_within rfl ⟨Nat.le_of_ble_eq_true rfl, Nat.le_of_ble_eq_true rfl, Nat.le_of_ble_eq_true rfl⟩ (by omega) (by omega) (fun v9 X hP => ?_) (fun _ _ h => absurd h.1 (by simp))
        obtain ⟨h1, rfl⟩ := hP
        cases h1
        refine xr_goto C d_Mo_fits_72 85 (by decide) ?_
        have hw : ((1 : Int32) ≤ nI n - nI k - nI v ∧ nI n - nI k - nI v ≤ 32) ↔ fitP p k v n := by
          rw [le_int i1' hr, le_int hr i32]
          refine ⟨fun h => ⟨⟨k1, k2⟩, v1, pv, r0, by rw [if_neg p2, if_pos p4]; omega⟩, fun h => ?_⟩
          have h9 := h.2.2.2.2
          rw [if_neg p2, if_pos p4] at h9
          omega
        refine xr_zret C d_Mo_fits_85 (by split <;> rfl) (by omega) (by omega) ⟨?_, rfl⟩
        by_cases hc : fitP p k v n
        · rw [if_pos hc, if_pos (hw.mpr hc)]
        · rw [if_neg hc, if_neg (fun q => hc (hw.mp q))]
    · have p2 : p < 2 := by
        rcases Nat.lt_or_ge p 2 with h | h
        · exact h
        · exact absurd (nI_le h (by omega)) h41
      refine xr_iload C d_Mo_fits_44 46 rfl rfl ?_
      refine xr_bipush (v := 100) C d_Mo_fits_46 48 rfl (by decide) ?_
      refine xr_icmp_gt C d_Mo_fits_48 51 55 rfl (by decide) (fun h48 => ?_) (fun h48 => ?_)
      · refine xr_iconst (v := 0) C d_Mo_fits_55 56 rfl (by decide) ?_
        refine xr_goto C d_Mo_fits_56 85 (by decide) ?_
        have h9 := (lt_int i100 hr).mp h48
        exact xr_zret C d_Mo_fits_85 rfl (by omega) (by omega) ⟨by rw [if_neg (fun q => by have h8 := q.2.2.2.2; rw [if_pos p2] at h8; omega)], rfl⟩
      · refine xr_iconst (v := 1) C d_Mo_fits_51 52 rfl (by decide) ?_
        refine xr_goto C d_Mo_fits_52 85 (by decide) ?_
        have h9 := mt (lt_int i100 hr).mpr h48
        exact xr_zret C d_Mo_fits_85 rfl (by omega) (by omega) ⟨by rw [if_pos ⟨⟨k1, k2⟩, v1, pv, r0, by rw [if_pos p2]; omega⟩], rfl⟩
  refine xr_iload_n C d_Mo_fits_23 24 rfl rfl ?_
  refine xr_iconst (v := 1) C d_Mo_fits_24 25 rfl (by decide) ?_
  refine xr_toi (show _ = nI 1 from rfl) ?_
  refine xr_icmp_eq C d_Mo_fits_25 28 32 rfl (by decide) (fun h25 => t32 (Or.inl ((nI_eq (by omega) (by omega)).mp h25))) (fun h25 => ?_)
  refine xr_iload_n C d_Mo_fits_28 29 rfl rfl ?_
  refine xr_if_gt C d_Mo_fits_29 32 37 rfl (by decide) (fun h29 => no (fun q => ?_)) (fun h29 => t32 (Or.inr ?_))
  · rcases q.2.2.1 with e | e
    · exact h25 (by rw [e])
    · rw [e] at h29
      exact absurd h29 (by decide)
  · rcases Nat.eq_zero_or_pos v with e | e
    · exact e
    · exact absurd (nI_lt (a := 0) e (by omega)) h29
