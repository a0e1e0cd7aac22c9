/-! Rows of bytes, packed into words. -/
def pad (a : List Int32) (i : Nat) : Nat := if i < a.length then ub (a.getD i 0) else 0
/-- word j after n bytes: the first byte is the highest -/
def kWn (a : List Int32) : Nat → Nat → Int64
  | 0, _ => 0
  | n + 1, j => if j = n / 8 then kWn a n j ||| ((nI (ub (a.getD n 0))).toInt64 <<< sa (8 * (7 - n % 8))) else kWn a n j
def kW (a : List Int32) (j : Nat) : Int64 := kWn a a.length j
/-- word j after n bytes: the first byte is the lowest -/
def vWn (a : List Int32) : Nat → Nat → Int64
  | 0, _ => 0
  | n + 1, j => if j = n / 8 then vWn a n j ||| ((nI (ub (a.getD n 0))).toInt64 <<< sa (8 * (n % 8))) else vWn a n j
def vW (a : List Int32) (j : Nat) : Int64 := vWn a a.length j
theorem by8_0 {b : Nat} : by8 0 b = 0 := by
  show 0 / 2 ^ (8 * b) % 256 = 0
  rw [Nat.zero_div]
theorem kWn_by {a : List Int32} {j : Nat} : ∀ {n i : Nat}, i < 8 → by8 (kWn a n j) (7 - i) = if 8 * j + i < n then ub (a.getD (8 * j + i) 0) else 0
  | 0, i, hi => by
    rw [if_neg (by omega)]
    exact by8_0
  | n + 1, i, hi => by
    have ih := @kWn_by a j n i hi
    by_cases hj : j = n / 8
    · have e : kWn a (n + 1) j = kWn a n j ||| ((nI (ub (a.getD n 0))).toInt64 <<< sa (8 * (7 - n % 8))) := if_pos hj
      have h0 : by8 (kWn a n j) (7 - n % 8) = 0 := by
        rw [@kWn_by a j n (n % 8) (by omega), if_neg (by omega)]
      rw [e, by8_or (ub_lt _) (by omega) (by omega) h0]
      by_cases hc : 7 - i = 7 - n % 8
      · rw [if_pos hc, if_pos (by omega), show 8 * j + i = n by omega]
      · rw [if_neg hc, ih]
        by_cases hl : 8 * j + i < n
        · rw [if_pos hl, if_pos (by omega)]
        · rw [if_neg hl, if_neg (by omega)]
    · have e : kWn a (n + 1) j = kWn a n j := if_neg hj
      rw [e, ih]
      by_cases hl : 8 * j + i < n
      · rw [if_pos hl, if_pos (by omega)]
      · rw [if_neg hl, if_neg (by omega)]
theorem vWn_by {a : List Int32} {j : Nat} : ∀ {n i : Nat}, i < 8 → by8 (vWn a n j) i = if 8 * j + i < n then ub (a.getD (8 * j + i) 0) else 0
  | 0, i, hi => by
    rw [if_neg (by omega)]
    exact by8_0
  | n + 1, i, hi => by
    have ih := @vWn_by a j n i hi
    by_cases hj : j = n / 8
    · have e : vWn a (n + 1) j = vWn a n j ||| ((nI (ub (a.getD n 0))).toInt64 <<< sa (8 * (n % 8))) := if_pos hj
      have h0 : by8 (vWn a n j) (n % 8) = 0 := by
        rw [@vWn_by a j n (n % 8) (by omega), if_neg (by omega)]
      rw [e, by8_or (ub_lt _) (by omega) (by omega) h0]
      by_cases hc : i = n % 8
      · rw [if_pos hc, if_pos (by omega), show 8 * j + i = n by omega]
      · rw [if_neg hc, ih]
        by_cases hl : 8 * j + i < n
        · rw [if_pos hl, if_pos (by omega)]
        · rw [if_neg hl, if_neg (by omega)]
    · have e : vWn a (n + 1) j = vWn a n j := if_neg hj
      rw [e, ih]
      by_cases hl : 8 * j + i < n
      · rw [if_pos hl, if_pos (by omega)]
      · rw [if_neg hl, if_neg (by omega)]
theorem kW_by {a : List Int32} {j i : Nat} (hi : i < 8) : by8 (kW a j) (7 - i) = pad a (8 * j + i) := kWn_by hi
theorem vW_by {a : List Int32} {j i : Nat} (hi : i < 8) : by8 (vW a j) i = pad a (8 * j + i) := vWn_by hi
def isbs (a : List Int32) : Prop := ∀ i, i < a.length → isb (a.getD i 0)
theorem ub_inj {x y : Int32} (hx : isb x) (hy : isb y) (h : ub x = ub y) : x = y := u8_inj hx hy (by rw [u8_ub, u8_ub, h])
theorem ext0 {a b : List Int32} (hl : a.length = b.length) (h : ∀ i, i < a.length → a.getD i 0 = b.getD i 0) : a = b := by
  refine List.ext_getElem hl (fun i h1 h2 => ?_)
  have := h i h1
  rw [List.getD_eq_getElem?_getD, List.getD_eq_getElem?_getD, List.getElem?_eq_getElem h1, List.getElem?_eq_getElem h2] at this
  exact this
theorem pad_eq {a b : List Int32} (ha : isbs a) (hb : isbs b) (hl : a.length = b.length) (h : ∀ i, i < a.length → pad a i = pad b i) : a = b := ext0 hl (fun i hi => by
  have h1 := h i hi
  unfold pad at h1
  rw [if_pos hi, if_pos (by omega)] at h1
  exact ub_inj (ha i hi) (hb i (by omega)) h1)
theorem kW_eq {a b : List Int32} (ha : isbs a) (hb : isbs b) (hl : a.length = b.length) (h32 : a.length ≤ 32) : (∀ j, j < 4 → kW a j = kW b j) ↔ a = b := by
  refine ⟨fun h => pad_eq ha hb hl (fun i hi => ?_), fun h j _ => by rw [h]⟩
  have h1 := kW_by (a := a) (j := i / 8) (i := i % 8) (by omega)
  have h2 := kW_by (a := b) (j := i / 8) (i := i % 8) (by omega)
  rw [show 8 * (i / 8) + i % 8 = i by omega] at h1 h2
  rw [← h1, ← h2, h (i / 8) (by omega)]
theorem vW_eq {a b : List Int32} (ha : isbs a) (hb : isbs b) (hl : a.length = b.length) (h104 : a.length ≤ 104) : (∀ j, j < 13 → vW a j = vW b j) ↔ a = b := by
  refine ⟨fun h => pad_eq ha hb hl (fun i hi => ?_), fun h j _ => by rw [h]⟩
  have h1 := vW_by (a := a) (j := i / 8) (i := i % 8) (by omega)
  have h2 := vW_by (a := b) (j := i / 8) (i := i % 8) (by omega)
  rw [show 8 * (i / 8) + i % 8 = i by omega] at h1 h2
  rw [← h1, ← h2, h (i / 8) (by omega)]
theorem pad_0 {x : Int32} {xs : List Int32} : pad (x :: xs) 0 = ub x := if_pos (Nat.succ_pos _)
theorem pad_s {x : Int32} {xs : List Int32} {i : Nat} : pad (x :: xs) (i + 1) = pad xs i := by
  unfold pad
  rw [List.length_cons]
  by_cases h : i < xs.length
  · rw [if_pos h, if_pos (by omega)]
    rfl
  · rw [if_neg h, if_neg (by omega)]
theorem pad_nil {i : Nat} : pad [] i = 0 := if_neg (Nat.not_lt_zero _)
theorem u8_lt {x y : Int32} : u8 x < u8 y ↔ ub x < ub y := by
  rw [u8_ub, u8_ub]
  have := ub_lt x
  have := ub_lt y
  exact nI_ltI (by omega) (by omega)
theorem u8_eq {x y : Int32} : u8 x = u8 y ↔ ub x = ub y := by
  rw [u8_ub, u8_ub]
  have := ub_lt x
  have := ub_lt y
  exact nI_eq (by omega) (by omega)
/-- the first byte that differs, filled up with 0, decides; else the length -/
theorem bl_lt : ∀ {a b : List Int32} {i : Nat}, (∀ j, j < i → pad a j = pad b j) → pad a i < pad b i → bl a b = true
  | [], [], i, _, h => by
    rw [pad_nil] at h
    omega
  | [], y :: ys, i, _, h => rfl
  | x :: xs, [], i, _, h => by
    rw [pad_nil] at h
    omega
  | x :: xs, y :: ys, 0, _, h => by
    rw [pad_0, pad_0] at h
    show (if u8 x = u8 y then _ else _) = true
    rw [if_neg (fun e => by have := u8_eq.mp e; omega), decide_eq_true_eq]
    exact u8_lt.mpr h
  | x :: xs, y :: ys, i + 1, he, h => by
    rw [pad_s, pad_s] at h
    have e0 : ub x = ub y := by
      have := he 0 (by omega)
      rw [pad_0, pad_0] at this
      exact this
    show (if u8 x = u8 y then _ else _) = true
    rw [if_pos (u8_eq.mpr e0)]
    exact bl_lt (fun j hj => by have := he (j + 1) (by omega); rw [pad_s, pad_s] at this; exact this) h
theorem bl_ge : ∀ {a b : List Int32} {i : Nat}, (∀ j, j < i → pad a j = pad b j) → pad b i < pad a i → bl a b = false
  | [], [], i, _, h => by
    rw [pad_nil] at h
    omega
  | [], y :: ys, i, _, h => by
    rw [pad_nil] at h
    omega
  | x :: xs, [], i, _, h => rfl
  | x :: xs, y :: ys, 0, _, h => by
    rw [pad_0, pad_0] at h
    show (if u8 x = u8 y then _ else _) = false
    rw [if_neg (fun e => by have := u8_eq.mp e; omega), decide_eq_false_iff_not]
    intro h2
    have := u8_lt.mp h2
    omega
  | x :: xs, y :: ys, i + 1, he, h => by
    rw [pad_s, pad_s] at h
    have e0 : ub x = ub y := by
      have := he 0 (by omega)
      rw [pad_0, pad_0] at this
      exact this
    show (if u8 x = u8 y then _ else _) = false
    rw [if_pos (u8_eq.mpr e0)]
    exact bl_ge (fun j hj => by have := he (j + 1) (by omega); rw [pad_s, pad_s] at this; exact this) h
theorem bl_eq : ∀ {a b : List Int32}, (∀ j, pad a j = pad b j) → bl a b = decide (a.length < b.length)
  | [], [], _ => rfl
  | [], y :: ys, h => by
    show true = decide (0 < ys.length + 1)
    simp
  | x :: xs, [], h => by
    show false = decide (xs.length + 1 < 0)
    simp
  | x :: xs, y :: ys, h => by
    have e0 : ub x = ub y := by
      have := h 0
      rw [pad_0, pad_0] at this
      exact this
    show (if u8 x = u8 y then _ else _) = decide (xs.length + 1 < ys.length + 1)
    rw [if_pos (u8_eq.mpr e0), bl_eq (fun j => by have := h (j + 1); rw [pad_s, pad_s] at this; exact this)]
    simp
/-- words of keys compared: where the words before are the same -/
theorem kW_bl {a b : List Int32} {j : Nat} (he : ∀ i, i < j → kW a i = kW b i) (hne : kW a j ≠ kW b j) : bl a b = decide (wn (kW a j) < wn (kW b j)) := by
  have hpre : ∀ q, q < 8 * j → pad a q = pad b q := fun q hq => by
    have h1 := kW_by (a := a) (j := q / 8) (i := q % 8) (by omega)
    have h2 := kW_by (a := b) (j := q / 8) (i := q % 8) (by omega)
    rw [show 8 * (q / 8) + q % 8 = q by omega] at h1 h2
    rw [← h1, ← h2, he (q / 8) (by omega)]
  have hex : ∃ i, i < 8 ∧ by8 (kW a j) (7 - i) ≠ by8 (kW b j) (7 - i) := by
    refine Classical.byContradiction (fun hn => hne (by8_ext (fun c hc => ?_)))
    refine Classical.byContradiction (fun h => hn ⟨7 - c, by omega, ?_⟩)
    rw [show 7 - (7 - c) = c by omega]
    exact h
  obtain ⟨i, ⟨hi, hd⟩, hmin⟩ := pk_least (fun i => i < 8 ∧ by8 (kW a j) (7 - i) ≠ by8 (kW b j) (7 - i)) hex
  have hsame : ∀ q, q < i → by8 (kW a j) (7 - q) = by8 (kW b j) (7 - q) := fun q hq => Classical.byContradiction (fun h => hmin q hq ⟨by omega, h⟩)
  have hpad : ∀ q, q < 8 * j + i → pad a q = pad b q := fun q hq => by
    by_cases h8 : q < 8 * j
    · exact hpre q h8
    · have h1 := hsame (q - 8 * j) (by omega)
      rw [kW_by (by omega), kW_by (by omega), show 8 * j + (q - 8 * j) = q by omega] at h1
      exact h1
  rcases Nat.lt_or_ge (by8 (kW a j) (7 - i)) (by8 (kW b j) (7 - i)) with h | h
  · have hw := wn_cmp hi hsame h
    rw [kW_by hi, kW_by hi] at h
    rw [bl_lt hpad h]
    simp [hw]
  · have h' : by8 (kW b j) (7 - i) < by8 (kW a j) (7 - i) := Nat.lt_of_le_of_ne h (Ne.symm hd)
    have hw := wn_cmp hi (fun q hq => (hsame q hq).symm) h'
    rw [kW_by hi, kW_by hi] at h'
    rw [bl_ge hpad h']
    have : ¬ wn (kW a j) < wn (kW b j) := by omega
    simp [this]
theorem kW_bl4 {a b : List Int32} (ha : a.length ≤ 32) (hb : b.length ≤ 32) (he : ∀ i, i < 4 → kW a i = kW b i) : bl a b = decide (a.length < b.length) := bl_eq (fun q => by
  by_cases h : q < 32
  · have h1 := kW_by (a := a) (j := q / 8) (i := q % 8) (by omega)
    have h2 := kW_by (a := b) (j := q / 8) (i := q % 8) (by omega)
    rw [show 8 * (q / 8) + q % 8 = q by omega] at h1 h2
    rw [← h1, ← h2, he (q / 8) (by omega)]
  · unfold pad
    rw [if_neg (by omega), if_neg (by omega)])
