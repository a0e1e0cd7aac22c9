/-! Rows of bytes compared. -/
def u8 (x : Int32) : Int32 := x &&& 255
theorem u8_nat (x : Int32) : (u8 x).toBitVec.toNat = x.toBitVec.toNat % 256 := by
  show (x.toBitVec &&& (255#32)).toNat = _
  rw [BitVec.toNat_and]
  exact Nat.and_two_pow_sub_one_eq_mod _ 8
theorem u8_int (x : Int32) : (u8 x).toInt = ((x.toBitVec.toNat % 256 : Nat) : Int) := by
  show (u8 x).toBitVec.toInt = _
  rw [BitVec.toInt_eq_toNat_of_lt (by rw [u8_nat]; omega), u8_nat]
theorem u8_lo (x : Int32) : 0 ≤ (u8 x).toInt := by rw [u8_int]; omega
theorem u8_hi (x : Int32) : (u8 x).toInt ≤ 255 := by rw [u8_int]; omega
theorem isb_rng {x : Int32} (h : isb x) : -128 ≤ x.toInt ∧ x.toInt ≤ 127 := by
  have h2 := h
  simp only [isb, fits] at h2
  have h3 : -128 ≤ x ∧ x ≤ 127 := by simpa using h2
  exact ⟨Int32.le_iff_toInt_le.mp h3.1, Int32.le_iff_toInt_le.mp h3.2⟩
theorem u8_inj {x y : Int32} (hx : isb x) (hy : isb y) (h : u8 x = u8 y) : x = y := by
  have h1 := isb_rng hx
  have h2 := isb_rng hy
  have h3 : (u8 x).toInt = (u8 y).toInt := by rw [h]
  rw [u8_int, u8_int] at h3
  apply Int32.toInt_inj.mp
  have e1 : x.toInt = if 2 * x.toBitVec.toNat < 2 ^ 32 then (x.toBitVec.toNat : Int) else (x.toBitVec.toNat : Int) - 2 ^ 32 := BitVec.toInt_eq_toNat_cond _
  have e2 : y.toInt = if 2 * y.toBitVec.toNat < 2 ^ 32 then (y.toBitVec.toNat : Int) else (y.toBitVec.toNat : Int) - 2 ^ 32 := BitVec.toInt_eq_toNat_cond _
  split at e1 <;> split at e2 <;> omega
theorem sub_sgn {a b : Int32} (ha : 0 ≤ a.toInt ∧ a.toInt ≤ 1000000) (hb : 0 ≤ b.toInt ∧ b.toInt ≤ 1000000) : (a - b = 0 ↔ a = b) ∧ (a - b < 0 ↔ a < b) := by
  have h : (a - b).toInt = a.toInt - b.toInt := by
    rw [Int32.toInt_sub, Int.bmod_def]
    split <;> omega
  constructor
  · rw [← Int32.toInt_inj, ← Int32.toInt_inj, h]
    show _ = (0 : Int) ↔ _
    omega
  · rw [Int32.lt_iff_toInt_lt, Int32.lt_iff_toInt_lt, h]
    show _ < (0 : Int) ↔ _
    omega
/-- a row of bytes comes before another -/
def bl : List Int32 → List Int32 → Bool
  | [], [] => false
  | [], _ :: _ => true
  | _ :: _, [] => false
  | x :: xs, y :: ys => if u8 x = u8 y then bl xs ys else decide (u8 x < u8 y)
theorem nI_int {n : Nat} (h : n < 2 ^ 31) : (nI n).toInt = n := by
  rw [show nI n = Int32.ofNat n from rfl]
  exact Int32.toInt_ofNat_of_lt h
set_option maxRecDepth 100000 in
set_option maxHeartbeats 4000000 in
theorem c_TK_compare {l : Launch} {D : va_G} {H0 : Heap} {X : xH} {p q : Nat} {as bs : List Int32} (hp : xBy D X p as) (hq : xBy D X q bs) : xMet l D H0 y_TK_compare b_TK_compare 5 (some .int) [] 1 0 0 [.ref p, .ref q] X (fun o X' => ∃ v : Int32, o = .inl (some (.int v)) ∧ X' = X ∧ (v = 0 ↔ as = bs) ∧ (v < 0 ↔ bl as bs = true)) := by
  obtain ⟨ha, f, hp1, hp2⟩ := hp
  obtain ⟨hb, g, hq1, hq2⟩ := hq
  refine ⟨[some (.ref p), some (.ref q), none, none, none], rfl, Nat.le_of_ble_eq_true rfl, fun E hD hH hl _ C => ?_⟩
  subst hD
  subst hH
  subst hl
  obtain ⟨n, hn⟩ : ∃ n, n = if bs.length < as.length then bs.length else as.length := ⟨_, rfl⟩
  have hn1 : n ≤ as.length ∧ n ≤ bs.length ∧ (n = as.length ∨ n = bs.length) := by
    rw [hn]
    split <;> omega
  have loop : ∀ (k i : Nat) (L4 : Option Value), i + k = n → (as.drop i = bs.drop i ↔ as = bs) → bl (as.drop i) (bs.drop i) = bl as bs → xG E X 0 0 10 [some (.ref p), some (.ref q), some (.int (nI n)), some (.int (nI i)), L4] [] := by
    intro k
    induction k with
    | zero =>
      intro i L4 hi h1 h2
      have e : i = n := by omega
      subst e
      refine xr_iload_n C d_TK_compare_10 11 rfl rfl ?_
      refine xr_iload_n C d_TK_compare_11 12 rfl rfl ?_
      refine xr_icmp_ge C d_TK_compare_12 15 46 rfl (by decide) (fun _ => ?_) (fun h => absurd (nI_le (Nat.le_refl _) (by omega)) h)
      refine xr_aload_n C d_TK_compare_46 47 rfl rfl ?_
      refine xr_alen (t0 := 0) C rfl d_TK_compare_47 48 rfl hp1 ?_
      refine xr_aload_n C d_TK_compare_48 49 rfl rfl ?_
      refine xr_alen (t0 := 0) C rfl d_TK_compare_49 50 rfl hq1 ?_
      refine xr_isub C d_TK_compare_50 51 rfl ?_
      have hs := sub_sgn (a := nI as.length) (b := nI bs.length) (by rw [nI_int (by omega)]; omega) (by rw [nI_int (by omega)]; omega)
      refine xr_iret C d_TK_compare_51 (by omega) (by omega) ⟨_, rfl, rfl, ?_, ?_⟩
      · rw [← h1]
        refine hs.1.trans ((nI_eq (by omega) (by omega)).trans ⟨fun h => ?_, fun h => ?_⟩)
        · rw [List.drop_eq_nil_of_le (by omega), List.drop_eq_nil_of_le (by omega)]
        · have h' := congrArg List.length h
          rw [List.length_drop, List.length_drop] at h'
          omega
      · rw [← h2]
        refine hs.2.trans ((nI_ltI (by omega) (by omega)).trans ?_)
        rcases hn1.2.2 with e | e
        · rw [e, List.drop_length]
          cases hc : List.drop as.length bs with
          | nil =>
            have := List.drop_eq_nil_iff.mp hc
            exact ⟨fun h => absurd h (by omega), fun h => by cases h⟩
          | cons z zs =>
            have : as.length < bs.length := by
              rcases Nat.lt_or_ge as.length bs.length with h | h
              · exact h
              · rw [List.drop_eq_nil_of_le h] at hc
                cases hc
            exact ⟨fun _ => rfl, fun _ => this⟩
        · rw [e, List.drop_length]
          cases hc : List.drop bs.length as with
          | nil =>
            have := List.drop_eq_nil_iff.mp hc
            exact ⟨fun h => absurd h (by omega), fun h => by cases h⟩
          | cons z zs => exact ⟨fun h => absurd h (by omega), fun h => by cases h⟩
    | succ k ih =>
      intro i L4 hi h1 h2
      have i1 : i < as.length := by omega
      have i2 : i < bs.length := by omega
      have da : as.drop i = as.getD i 0 :: as.drop (i + 1) := by
        rw [List.getD_eq_getElem?_getD, List.getElem?_eq_getElem i1, Option.getD_some, List.drop_eq_getElem_cons i1]
      have db : bs.drop i = bs.getD i 0 :: bs.drop (i + 1) := by
        rw [List.getD_eq_getElem?_getD, List.getElem?_eq_getElem i2, Option.getD_some, List.drop_eq_getElem_cons i2]
      refine xr_iload_n C d_TK_compare_10 11 rfl rfl ?_
      refine xr_iload_n C d_TK_compare_11 12 rfl rfl ?_
      refine xr_icmp_ge C d_TK_compare_12 15 46 rfl (by decide) (fun h => absurd h (nI_ge (show i < n by omega) (by omega))) (fun _ => ?_)
      refine xr_aload_n C d_TK_compare_15 16 rfl rfl ?_
      refine xr_iload_n C d_TK_compare_16 17 rfl rfl ?_
      refine xr_bald C d_TK_compare_17 18 rfl hp1 rfl i1 (by omega) ?_
      refine xr_toi (hp2 i i1).1 ?_
      refine xr_sipush (v := 255) C d_TK_compare_18 21 rfl (by decide) ?_
      refine xr_iand C d_TK_compare_21 22 rfl ?_
      refine xr_aload_n C d_TK_compare_22 23 rfl rfl ?_
      refine xr_iload_n C d_TK_compare_23 24 rfl rfl ?_
      refine xr_bald C d_TK_compare_24 25 rfl hq1 rfl i2 (by omega) ?_
      refine xr_toi (hq2 i i2).1 ?_
      refine xr_sipush (v := 255) C d_TK_compare_25 28 rfl (by decide) ?_
      refine xr_iand C d_TK_compare_28 29 rfl ?_
      refine xr_isub C d_TK_compare_29 30 rfl ?_
      refine xr_istore C d_TK_compare_30 32 rfl rfl rfl ?_
      refine xr_iload C d_TK_compare_32 34 rfl rfl ?_
      have hs := sub_sgn (a := u8 (as.getD i 0)) (b := u8 (bs.getD i 0)) ⟨u8_lo _, Int.le_trans (u8_hi _) (by decide)⟩ ⟨u8_lo _, Int.le_trans (u8_hi _) (by decide)⟩
      refine xr_if_eq C d_TK_compare_34 37 40 rfl (by decide) (fun h34 => ?_) (fun h34 => ?_)
      · have e0 : u8 (as.getD i 0) = u8 (bs.getD i 0) := hs.1.mp h34
        have e1 : as.getD i 0 = bs.getD i 0 := u8_inj (hp2 i i1).2 (hq2 i i2).2 e0
        refine xr_iinc (v := 1) C d_TK_compare_40 43 rfl rfl rfl rfl (by decide) ?_
        refine xr_goto C d_TK_compare_43 10 (by decide) ?_
        refine xG.eqL (show _ = [some (Value.ref p), some (Value.ref q), some (Value.int (nI n)), some (Value.int (nI (i + 1))), _] by rw [← nI_one]; rfl) ?_
        refine ih (i + 1) _ (by omega) ?_ ?_
        · rw [← h1, da, db, e1]
          exact ⟨fun h => by rw [h], fun h => (List.cons.inj h).2⟩
        · rw [← h2, da, db]
          show _ = if u8 _ = u8 _ then _ else _
          rw [if_pos e0]
      · have e0 : ¬ u8 (as.getD i 0) = u8 (bs.getD i 0) := fun h => h34 (hs.1.mpr h)
        refine xr_iload C d_TK_compare_37 39 rfl rfl ?_
        refine xr_iret C d_TK_compare_39 (by omega) (by omega) ⟨_, rfl, rfl, ?_, ?_⟩
        · rw [← h1, da, db]
          exact ⟨fun h => absurd h h34, fun h => absurd (by rw [(List.cons.inj h).1]) e0⟩
        · rw [← h2, da, db]
          show _ ↔ (if u8 _ = u8 _ then _ else _) = true
          rw [if_neg e0, decide_eq_true_eq]
          exact hs.2
  refine xr_aload_n C d_TK_compare_0 1 rfl rfl ?_
  refine xr_alen (t0 := 0) C rfl d_TK_compare_1 2 rfl hp1 ?_
  refine xr_aload_n C d_TK_compare_2 3 rfl rfl ?_
  refine xr_alen (t0 := 0) C rfl d_TK_compare_3 4 rfl hq1 ?_
  refine xr_min C d_TK_compare_4 7 rfl q_695 w_min (Nat.le_of_ble_eq_true rfl) (by omega) (by omega) ?_
  refine xr_toi (show _ = nI n from by
    rw [hn]
    by_cases h : bs.length < as.length
    · rw [if_pos h, if_pos (nI_lt h (by omega))]
    · rw [if_neg h, if_neg (nI_nlt (by omega) (by omega))]) ?_
  refine xr_istore_n C d_TK_compare_7 8 rfl rfl rfl ?_
  refine xr_iconst (v := 0) C d_TK_compare_8 9 rfl (by decide) ?_
  refine xr_istore_n C d_TK_compare_9 10 rfl rfl rfl ?_
  exact loop n 0 _ (by omega) Iff.rfl rfl
