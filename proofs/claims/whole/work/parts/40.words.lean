/-! Words of eight bytes. -/
section XRM
variable {E : xE} {y : MethodName} {cc : ByteArray} {nL : Nat} {ret : Option FieldType} {hs : List (Nat × Nat × Nat × Nat)} {d mc ms : Nat} {Post : xO → xH → Prop} {X : xH} {cells slots pc : Nat} {L : List (Option Value)} {st : List Value}
theorem xr_lshr (C : xCx E y cc nL ret hs d mc ms Post) {x v : Int64} {z : Int32} (hd : decode cc pc = .ok (.lshr, 1)) (n : Nat) (hn : pc + 1 = n) (hv : x >>> (z.toInt64 &&& 63) = v) (k : xG E X cells slots n L (.long v :: st)) : xG E X cells slots pc L (.int z :: .long x :: st) := by
  subst hn
  intro H locs ls h1 h2 h3
  exact lv_lshr C.1 C.2.1 hd hv (k H locs ls h1 h2 h3)
end XRM
def wn (x : Int64) : Nat := x.toBitVec.toNat
theorem wn_lt (x : Int64) : wn x < 2 ^ 64 := x.toBitVec.isLt
theorem wn_inj {x y : Int64} (h : wn x = wn y) : x = y := Int64.toBitVec_inj.mp (BitVec.eq_of_toNat_eq h)
/-- the byte at place b, 0 the lowest -/
def by8 (x : Int64) (b : Nat) : Nat := wn x / 2 ^ (8 * b) % 256
def sa (s : Nat) : Int64 := (nI s).toInt64 &&& 63
theorem sa_ok : ∀ s, s < 64 → ((sa s).toBitVec.smod 64).toNat = s := by decide +kernel
theorem wn_shl {x : Int64} {s : Nat} (h : s < 64) : wn (x <<< sa s) = wn x * 2 ^ s % 2 ^ 64 := by
  show (x.toBitVec <<< ((sa s).toBitVec.smod 64)).toNat = _
  rw [BitVec.shiftLeft_eq', sa_ok s h, BitVec.toNat_shiftLeft, Nat.shiftLeft_eq]
  rfl
theorem wn_shr {x : Int64} {s : Nat} (h : s ≤ 56) : wn ((x >>> sa s) &&& 255) = wn x / 2 ^ s % 256 := by
  show ((x.toBitVec.sshiftRight' ((sa s).toBitVec.smod 64)) &&& 255#64).toNat = _
  rw [BitVec.sshiftRight_eq', sa_ok s (by omega)]
  have e : (x.toBitVec.sshiftRight s) &&& 255#64 = (x.toBitVec >>> s) &&& 255#64 := by
    apply BitVec.eq_of_getLsbD_eq
    intro i hi
    rw [BitVec.getLsbD_and, BitVec.getLsbD_and]
    by_cases h8 : i < 8
    · rw [BitVec.getLsbD_sshiftRight, BitVec.getLsbD_ushiftRight, if_pos (by omega)]
      simp [show ¬ 64 ≤ i by omega]
    · have : (255#64).getLsbD i = false := by
        have hx : ∀ i, i < 64 → ¬ i < 8 → (255#64).getLsbD i = false := by decide +kernel
        exact hx i hi h8
      rw [this, Bool.and_false, Bool.and_false]
  rw [e, BitVec.toNat_and, BitVec.toNat_ushiftRight, Nat.shiftRight_eq_div_pow]
  exact Nat.and_two_pow_sub_one_eq_mod _ 8
theorem wn_ofNat {n : Nat} (h : n < 2 ^ 64) : wn (lN n) = n := by
  show (BitVec.ofNat 64 n).toNat = n
  rw [BitVec.toNat_ofNat]
  exact Nat.mod_eq_of_lt h
theorem l2i_ok {x : Int64} {n : Nat} (h : wn x = n) (hn : n < 2 ^ 31) : x.toInt32 = nI n := by
  have e : x = lN n := wn_inj (by rw [h, wn_ofNat (by omega)])
  rw [e]
  apply Int32.toInt_inj.mp
  rw [nI_int hn, Int64.toInt_toInt32, pk_lT (by omega), Int.bmod_def]
  split <;> omega
/-- the byte at place b, as an int -/
theorem ext8 {x : Int64} {b : Nat} (h : b < 8) : ((x >>> sa (8 * b)) &&& 255).toInt32 = nI (by8 x b) := l2i_ok (wn_shr (by omega)) (by unfold by8; omega)
def ub (x : Int32) : Nat := x.toBitVec.toNat % 256
theorem ub_lt (x : Int32) : ub x < 256 := Nat.mod_lt _ (by omega)
theorem u8_ub (x : Int32) : u8 x = nI (ub x) := by
  apply Int32.toInt_inj.mp
  rw [u8_int, nI_int (by have := ub_lt x; omega)]
  rfl
theorem wn_u8 {n s : Nat} (hn : n < 256) (hs : s ≤ 56) : wn ((nI n).toInt64 <<< sa s) = n * 2 ^ s := by
  rw [wn_shl (by omega), nI_l (by omega), wn_ofNat (by omega)]
  refine Nat.mod_eq_of_lt ?_
  have h1 : 2 ^ s ≤ 2 ^ 56 := Nat.pow_le_pow_right (by omega) hs
  have h2 : n * 2 ^ s ≤ 255 * 2 ^ 56 := Nat.mul_le_mul (by omega) h1
  omega
theorem wn_or {x y : Int64} : wn (x ||| y) = wn x ||| wn y := BitVec.toNat_or ..
theorem by8_or {x : Int64} {n c b : Nat} (hn : n < 256) (hc : c < 8) (hb : b < 8) (h0 : by8 x c = 0) : by8 (x ||| ((nI n).toInt64 <<< sa (8 * c))) b = if b = c then n else by8 x b := by
  unfold by8 at h0 ⊢
  rw [wn_or, wn_u8 hn (by omega)]
  apply Nat.eq_of_testBit_eq
  intro i
  have hm : ∀ z : Nat, (z / 2 ^ (8 * b) % 256).testBit i = (decide (i < 8) && z.testBit (8 * b + i)) := by
    intro z
    rw [show (256 : Nat) = 2 ^ 8 from rfl, Nat.testBit_mod_two_pow, Nat.testBit_div_two_pow, Nat.add_comm]
  have hsh : (n * 2 ^ (8 * c)).testBit (8 * b + i) = (decide (8 * c ≤ 8 * b + i) && n.testBit (8 * b + i - 8 * c)) := by
    rw [← Nat.shiftLeft_eq, Nat.testBit_shiftLeft]
  rw [hm, Nat.testBit_or, hsh]
  by_cases h8 : i < 8
  · by_cases e : b = c
    · subst e
      rw [if_pos rfl]
      have h1 : (wn x / 2 ^ (8 * b) % 256).testBit i = (0 : Nat).testBit i := by rw [h0]
      rw [hm, Nat.zero_testBit] at h1
      simp only [h8, decide_true, Bool.true_and] at h1
      rw [h1, Bool.false_or, show 8 * b + i - 8 * b = i by omega]
      simp [h8]
    · rw [if_neg e, hm]
      have h2 : (decide (8 * c ≤ 8 * b + i) && n.testBit (8 * b + i - 8 * c)) = false := by
        by_cases h3 : 8 * c ≤ 8 * b + i
        · have : n.testBit (8 * b + i - 8 * c) = false := Nat.testBit_lt_two_pow (Nat.lt_of_lt_of_le hn (by
            rw [show (256 : Nat) = 2 ^ 8 from rfl]
            exact Nat.pow_le_pow_right (by omega) (by omega)))
          rw [this, Bool.and_false]
        · simp [h3]
      rw [h2, Bool.or_false]
  · simp only [h8, decide_false, Bool.false_and]
    symm
    by_cases e : b = c
    · rw [if_pos e]
      exact Nat.testBit_lt_two_pow (Nat.lt_of_lt_of_le hn (by
        rw [show (256 : Nat) = 2 ^ 8 from rfl]
        exact Nat.pow_le_pow_right (by omega) (by omega)))
    · rw [if_neg e, hm]
      simp [h8]
/-- a byte is put in place of another -/
theorem by8_put {x : Int64} {n c b : Nat} (hn : n < 256) (hc : c < 8) (hb : b < 8) : by8 ((x &&& (((255 : Int64) <<< sa (8 * c)) ^^^ (-1))) ||| ((nI n).toInt64 <<< sa (8 * c))) b = if b = c then n else by8 x b := by
  have key : ∀ b, b < 8 → by8 (x &&& (((255 : Int64) <<< sa (8 * c)) ^^^ (-1))) b = if b = c then 0 else by8 x b := by
    intro b hb
    have hw : wn (x &&& (((255 : Int64) <<< sa (8 * c)) ^^^ (-1))) = (x.toBitVec &&& (((255#64) <<< (8 * c)) ^^^ (BitVec.allOnes 64))).toNat := by
      show (x.toBitVec &&& (((255#64) <<< ((sa (8 * c)).toBitVec.smod 64)) ^^^ (-1#64))).toNat = _
      rw [BitVec.shiftLeft_eq', sa_ok _ (by omega)]
      rfl
    unfold by8
    rw [hw]
    apply Nat.eq_of_testBit_eq
    intro i
    have hm : ∀ z : Nat, (z / 2 ^ (8 * b) % 256).testBit i = (decide (i < 8) && z.testBit (8 * b + i)) := by
      intro z
      rw [show (256 : Nat) = 2 ^ 8 from rfl, Nat.testBit_mod_two_pow, Nat.testBit_div_two_pow, Nat.add_comm]
    rw [hm]
    have hx8 : ∀ i, i < 64 → (255#64).getLsbD i = decide (i < 8) := by decide +kernel
    by_cases h8 : i < 8
    · have h64 : 8 * b + i < 64 := by omega
      have e1 : (x.toBitVec &&& (((255#64) <<< (8 * c)) ^^^ (BitVec.allOnes 64))).toNat.testBit (8 * b + i) = (x.toBitVec.getLsbD (8 * b + i) && !(decide (8 * c ≤ 8 * b + i) && decide (8 * b + i - 8 * c < 8))) := by
        rw [BitVec.testBit_toNat, BitVec.getLsbD_and, BitVec.getLsbD_xor, BitVec.getLsbD_allOnes, BitVec.getLsbD_shiftLeft]
        by_cases h3 : 8 * b + i < 8 * c
        · simp [h64, h3, show ¬ 8 * c ≤ 8 * b + i by omega]
        · rw [hx8 _ (by omega)]
          simp [h64, h3, show 8 * c ≤ 8 * b + i by omega]
      rw [e1]
      by_cases e : b = c
      · subst e
        rw [if_pos rfl]
        simp [h8]
      · rw [if_neg e, hm]
        have h4 : (decide (8 * c ≤ 8 * b + i) && decide (8 * b + i - 8 * c < 8)) = false := by
          by_cases h3 : 8 * c ≤ 8 * b + i
          · have : ¬ 8 * b + i - 8 * c < 8 := by omega
            simp [this]
          · simp [h3]
        rw [h4]
        simp only [h8, decide_true, Bool.true_and, Bool.not_false, Bool.and_true]
        exact (BitVec.testBit_toNat _).symm
    · by_cases e : b = c
      · rw [if_pos e]
        simp [h8]
      · rw [if_neg e, hm]
        simp [h8]
  rw [by8_or hn hc hb (by rw [key c hc, if_pos rfl])]
  by_cases e : b = c
  · rw [if_pos e, if_pos e]
  · rw [if_neg e, if_neg e, key b hb, if_neg e]
theorem by8_sum (x : Int64) : wn x = by8 x 0 + 256 * by8 x 1 + 65536 * by8 x 2 + 16777216 * by8 x 3 + 4294967296 * by8 x 4 + 1099511627776 * by8 x 5 + 281474976710656 * by8 x 6 + 72057594037927936 * by8 x 7 := by
  have := wn_lt x
  unfold by8
  simp only [Nat.mul_zero, Nat.pow_zero, Nat.div_one, Nat.reduceMul, Nat.reducePow]
  omega
theorem by8_ext {x y : Int64} (h : ∀ b, b < 8 → by8 x b = by8 y b) : x = y := by
  apply wn_inj
  rw [by8_sum x, by8_sum y, h 0 (by omega), h 1 (by omega), h 2 (by omega), h 3 (by omega), h 4 (by omega), h 5 (by omega), h 6 (by omega), h 7 (by omega)]
theorem by8_lt (x : Int64) (b : Nat) : by8 x b < 256 := Nat.mod_lt _ (by omega)
/-- the first byte from the top that differs decides -/
theorem wn_cmp {x y : Int64} {i : Nat} (hi : i < 8) (he : ∀ j, j < i → by8 x (7 - j) = by8 y (7 - j)) (hl : by8 x (7 - i) < by8 y (7 - i)) : wn x < wn y := by
  rw [by8_sum x, by8_sum y]
  have a0 := by8_lt x 0
  have a1 := by8_lt x 1
  have a2 := by8_lt x 2
  have a3 := by8_lt x 3
  have a4 := by8_lt x 4
  have a5 := by8_lt x 5
  have a6 := by8_lt x 6
  have a7 := by8_lt x 7
  have e : ∀ j, j < i → by8 x (7 - j) = by8 y (7 - j) := he
  match i, hi with
  | 0, _ => 
    have hl : by8 x 7 < by8 y 7 := hl
    omega
  | 1, _ =>
    have hl : by8 x 6 < by8 y 6 := hl
    have e0 : by8 x 7 = by8 y 7 := e 0 (by omega)
    omega
  | 2, _ =>
    have hl : by8 x 5 < by8 y 5 := hl
    have e0 : by8 x 7 = by8 y 7 := e 0 (by omega)
    have e1 : by8 x 6 = by8 y 6 := e 1 (by omega)
    omega
  | 3, _ =>
    have hl : by8 x 4 < by8 y 4 := hl
    have e0 : by8 x 7 = by8 y 7 := e 0 (by omega)
    have e1 : by8 x 6 = by8 y 6 := e 1 (by omega)
    have e2 : by8 x 5 = by8 y 5 := e 2 (by omega)
    omega
  | 4, _ =>
    have hl : by8 x 3 < by8 y 3 := hl
    have e0 : by8 x 7 = by8 y 7 := e 0 (by omega)
    have e1 : by8 x 6 = by8 y 6 := e 1 (by omega)
    have e2 : by8 x 5 = by8 y 5 := e 2 (by omega)
    have e3 : by8 x 4 = by8 y 4 := e 3 (by omega)
    omega
  | 5, _ =>
    have hl : by8 x 2 < by8 y 2 := hl
    have e0 : by8 x 7 = by8 y 7 := e 0 (by omega)
    have e1 : by8 x 6 = by8 y 6 := e 1 (by omega)
    have e2 : by8 x 5 = by8 y 5 := e 2 (by omega)
    have e3 : by8 x 4 = by8 y 4 := e 3 (by omega)
    have e4 : by8 x 3 = by8 y 3 := e 4 (by omega)
    omega
  | 6, _ =>
    have hl : by8 x 1 < by8 y 1 := hl
    have e0 : by8 x 7 = by8 y 7 := e 0 (by omega)
    have e1 : by8 x 6 = by8 y 6 := e 1 (by omega)
    have e2 : by8 x 5 = by8 y 5 := e 2 (by omega)
    have e3 : by8 x 4 = by8 y 4 := e 3 (by omega)
    have e4 : by8 x 3 = by8 y 3 := e 4 (by omega)
    have e5 : by8 x 2 = by8 y 2 := e 5 (by omega)
    omega
  | 7, _ =>
    have hl : by8 x 0 < by8 y 0 := hl
    have e0 : by8 x 7 = by8 y 7 := e 0 (by omega)
    have e1 : by8 x 6 = by8 y 6 := e 1 (by omega)
    have e2 : by8 x 5 = by8 y 5 := e 2 (by omega)
    have e3 : by8 x 4 = by8 y 4 := e 3 (by omega)
    have e4 : by8 x 3 = by8 y 3 := e 4 (by omega)
    have e5 : by8 x 2 = by8 y 2 := e 5 (by omega)
    have e6 : by8 x 1 = by8 y 1 := e 6 (by omega)
    omega
/-- longs compared as if they had no sign -/
theorem wn_ult (x y : Int64) : ((x < y) ≠ ((x < 0) ≠ (y < 0))) ↔ wn x < wn y := by
  have hx : x.toInt = if 2 * wn x < 2 ^ 64 then (wn x : Int) else (wn x : Int) - 2 ^ 64 := BitVec.toInt_eq_toNat_cond _
  have hy : y.toInt = if 2 * wn y < 2 ^ 64 then (wn y : Int) else (wn y : Int) - 2 ^ 64 := BitVec.toInt_eq_toNat_cond _
  have h1 := wn_lt x
  have h2 := wn_lt y
  have z : (0 : Int64).toInt = 0 := rfl
  rw [Int64.lt_iff_toInt_lt, Int64.lt_iff_toInt_lt, Int64.lt_iff_toInt_lt, z]
  split at hx <;> split at hy <;> rw [hx, hy] <;> simp only [ne_eq, eq_iff_iff] <;> omega
