/-! The class: rows of bytes (TwinKeepers.Row). -/
def isb (x : Int32) : Prop := fits .byte (.int x) = true
theorem isb_nar {x : Int32} (h : isb x) : vp_nar .byte x = x := by
  have h1 : -128 ≤ x.toInt ∧ x.toInt ≤ 127 := by
    have h2 := h
    simp only [isb, fits] at h2
    have h3 : -128 ≤ x ∧ x ≤ 127 := by simpa using h2
    exact ⟨Int32.le_iff_toInt_le.mp h3.1, Int32.le_iff_toInt_le.mp h3.2⟩
  rw [vp_nar_byte]
  apply Int32.toInt_inj.mp
  rw [Int8.toInt_toInt32, Int32.toInt_toInt8]
  rw [Int.bmod_def]
  have e1 := h1.1
  have e2 := h1.2
  split <;> omega
theorem isb_i2b (z : Int32) : isb z.toInt8.toInt32 := pk_fb z
/-- d is c doubled as often as n wants -/
def isR (c n d : Nat) : Prop := ∃ j : Nat, d = c * 2 ^ j ∧ n ≤ d ∧ ∀ i, i < j → c * 2 ^ i < n
theorem isR.rf {c n : Nat} (h : n ≤ c) : isR c n c := ⟨0, by simp, h, fun i hi => absurd hi (Nat.not_lt_zero _)⟩
theorem isR.ex {c n : Nat} (hc : 0 < c) : ∃ d, isR c n d := by
  have h : ∃ k, n ≤ c * 2 ^ k := ⟨n, Nat.le_trans (Nat.le_of_lt Nat.lt_two_pow_self) (Nat.le_mul_of_pos_left _ hc)⟩
  obtain ⟨k, h1, h2⟩ := pk_least (fun k => n ≤ c * 2 ^ k) h
  exact ⟨_, k, rfl, h1, fun i hi => Nat.not_le.mp (h2 i hi)⟩
theorem isR.le {c n d : Nat} (h : isR c n d) : c ≤ d := by
  obtain ⟨j, rfl, -⟩ := h
  exact Nat.le_mul_of_pos_right _ (Nat.two_pow_pos j)
theorem isR.ge {c n d : Nat} (h : isR c n d) : n ≤ d := by
  obtain ⟨j, rfl, h1, -⟩ := h
  exact h1
theorem isR.then {c m n d1 d : Nat} (h1 : isR c m d1) (h : isR c n d) (hmn : m ≤ n) : isR d1 n d := by
  obtain ⟨j1, rfl, a1, a2⟩ := h1
  obtain ⟨j, rfl, b1, b2⟩ := h
  have hj : j1 ≤ j := by
    rcases Nat.lt_or_ge j j1 with q | q
    · have := a2 j q
      omega
    · exact q
  refine ⟨j - j1, ?_, b1, fun i hi => ?_⟩
  · rw [Nat.mul_assoc, ← Nat.pow_add, show j1 + (j - j1) = j by omega]
  · have := b2 (j1 + i) (by omega)
    rw [Nat.mul_assoc, ← Nat.pow_add]
    exact this
theorem isR.one {c n d : Nat} (h : isR c (n + 1) d) (hn : n ≤ c) (hc : 0 < c) : (n < c ∧ d = c) ∨ (n = c ∧ d = 2 * c) := by
  obtain ⟨j, rfl, h1, h2⟩ := h
  match j with
  | 0 => exact Or.inl ⟨by omega, by omega⟩
  | 1 => 
    have := h2 0 (by omega)
    refine Or.inr ⟨by omega, by omega⟩
  | j + 2 =>
    have h3 := h2 1 (by omega)
    exact absurd h3 (by omega)
theorem isR.fit {c n d : Nat} (h : isR c n d) (hn : n ≤ c) : d = c := by
  obtain ⟨j, rfl, h1, h2⟩ := h
  match j with
  | 0 => omega
  | j + 1 =>
    have := h2 0 (by omega)
    omega
theorem isR.top {c n d : Nat} (h : isR c n d) : d ≤ c ∨ d < 2 * n := by
  obtain ⟨j, rfl, h1, h2⟩ := h
  match j with
  | 0 => exact Or.inl (by omega)
  | j + 1 =>
    have := h2 j (by omega)
    rw [Nat.pow_succ, ← Nat.mul_assoc]
    exact Or.inr (by omega)
/-- a row at r, its bytes in the array at b of cap places -/
def xRow (D : va_G) (X : xH) (r b cap : Nat) (bs : List Int32) : Prop := ∃ f : Nat → Int32, X r = some (.inr (3, [.ref b, .int (nI bs.length)])) ∧ X b = some (.inl (D.1 100, cap, .inl f)) ∧ bs.length ≤ cap ∧ xby cap f ∧ (∀ i, i < bs.length → f i = bs.getD i 0) ∧ 256 ≤ cap ∧ cap ≤ 32767
theorem xRow.keep {D : va_G} {X X' : xH} {S : List Nat} {r b cap : Nat} {bs : List Int32} (h : xRow D X r b cap bs) (hf : xFr S X X') (ha : r ∉ S) (hb : b ∉ S) : xRow D X' r b cap bs := by
  obtain ⟨f, h1, h2, h3⟩ := h
  exact ⟨f, hf.use h1 ha, hf.use h2 hb, h3⟩
theorem getD_snocB {bs : List Int32} {v : Int32} {i : Nat} (hi : i < (bs ++ [v]).length) : (bs ++ [v]).getD i 0 = if i < bs.length then bs.getD i 0 else v := by
  rw [List.length_append, List.length_singleton] at hi
  by_cases h : i < bs.length
  · rw [if_pos h, List.getD_eq_getElem?_getD, List.getD_eq_getElem?_getD, List.getElem?_append_left h]
  · rw [if_neg h, List.getD_eq_getElem?_getD, List.getElem?_append_right (by omega), show i - bs.length = 0 by omega]
    rfl
/-- what comes of adding to a row -/
def xAdd (D : va_G) (X X' : xH) (r b d : Nat) (bs : List Int32) : Prop := ∃ b' : Nat, xRow D X' r b' d bs ∧ xFr [r, b] X X' ∧ (b' = b ∨ X b' = none)
theorem xAdd.then {D : va_G} {X X1 X2 : xH} {r b b1 d2 : Nat} {bs2 : List Int32} (hf : xFr [r, b] X X1) (hb : b1 = b ∨ X b1 = none) (h2 : xAdd D X1 X2 r b1 d2 bs2) : xAdd D X X2 r b d2 bs2 := by
  obtain ⟨b2, h3, h4, h5⟩ := h2
  refine ⟨b2, h3, ⟨fun q v hq hn => ?_, fun q hq => hf.2 q (h4.2 q hq)⟩, ?_⟩
  · refine h4.1 q v (hf.1 q v hq hn) (hn.imp (fun h => ?_) id)
    intro hm
    rcases List.mem_cons.mp hm with e | e
    · exact h (by rw [e]; simp)
    · have e : q = b1 := by simpa using e
      rcases hb with hb | hb
      · exact h (by rw [e, hb]; simp)
      · rw [e, hb] at hq
        cases hq
  · rcases h5 with h5 | h5
    · rw [h5]
      exact hb
    · exact Or.inr (hf.2 _ h5)
set_option maxRecDepth 100000 in
set_option maxHeartbeats 4000000 in
theorem c_Ro_init {l : Launch} {D : va_G} {H0 : Heap} {X : xH} {r : Nat} {v0 : Value} {s0 : Int32} (hr : X r = some (.inr (3, [v0, .int s0]))) : xMet l D H0 y_Ro_init b_Ro_init 1 none [] 0 1 256 [.ref r] X (fun o X' => o = .inl none ∧ ∃ b' : Nat, xRow D X' r b' 256 [] ∧ xFr [r] X X' ∧ X b' = none) := by
  refine ⟨[some (.ref r)], rfl, Nat.le_of_ble_eq_true rfl, fun E hD hH hl _ C => ?_⟩
  subst hD
  subst hH
  subst hl
  refine xr_aload_n C d_Ro_init_0 1 rfl rfl ?_
  refine xr_objInit C d_Ro_init_1 4 rfl q_106 w_oi w_oc (Nat.le_of_ble_eq_true rfl) ?_
  refine xr_aload_n C d_Ro_init_4 5 rfl rfl ?_
  refine xr_sipush (v := 256) C d_Ro_init_5 8 rfl (by decide) ?_
  refine xr_newb (N := 256) C d_Ro_init_8 10 rfl q_116 (by decide) (by omega) (by omega) (by omega) (fun q hq => ?_)
  refine xr_put C K_Ro 0 d_Ro_init_10 13 rfl q_107 (Or.inl rfl) rfl rfl rfl rfl (xup_fresh hr hq) rfl rfl ?_
  refine xr_aload_n C d_Ro_init_13 14 rfl rfl ?_
  refine xr_iconst (v := 0) C d_Ro_init_14 15 rfl (by decide) ?_
  refine xr_put C K_Ro 1 d_Ro_init_15 18 rfl q_109 (Or.inl rfl) rfl rfl rfl rfl xup_self rfl rfl ?_
  have hqr : q ≠ r := Ne.symm (xne_none hr hq)
  refine xG.eqX xup_up ?_
  refine xr_vret C d_Ro_init_18 (by omega) (by omega) ⟨rfl, q, ⟨fun _ => 0, xup_self, (xup_ne hqr).trans xup_self, Nat.zero_le _, fun i hi => (rfl : fits .byte (.int 0) = true), fun i hi => absurd hi (Nat.not_lt_zero _), by omega, by omega⟩, (xFr.rf.fresh hq).at hr (fun z => z) (by simp), hq⟩
set_option maxRecDepth 100000 in
set_option maxHeartbeats 4000000 in
theorem c_Ro_empty {l : Launch} {D : va_G} {H0 : Heap} {X : xH} {r b cap : Nat} {bs : List Int32} (hR : xRow D X r b cap bs) : xMet l D H0 y_Ro_empty b_Ro_empty 1 none [] 0 0 0 [.ref r] X (fun o X' => o = .inl none ∧ xRow D X' r b cap [] ∧ xFr [r] X X') := by
  obtain ⟨f, hr, hb, h1, h2, h3, h4, h5⟩ := hR
  refine ⟨[some (.ref r)], rfl, Nat.le_of_ble_eq_true rfl, fun E hD hH hl _ C => ?_⟩
  subst hD
  subst hH
  subst hl
  have hrb : r ≠ b := xne hr hb (by intro h; cases h)
  refine xr_aload_n C d_Ro_empty_0 1 rfl rfl ?_
  refine xr_iconst (v := 0) C d_Ro_empty_1 2 rfl (by decide) ?_
  refine xr_put C K_Ro 1 d_Ro_empty_2 5 rfl q_109 (Or.inl rfl) rfl rfl rfl rfl (by first | assumption | exact xup_self | exact (xup_ne (by assumption)).trans (by assumption) | exact (xup_ne (Ne.symm (by assumption))).trans (by assumption) | exact (xup_ne (by assumption)).trans xup_self | exact (xup_ne (Ne.symm (by assumption))).trans xup_self) rfl rfl ?_
  exact xr_vret C d_Ro_empty_5 (by omega) (by omega) ⟨rfl, ⟨f, xup_self, (xup_ne (Ne.symm hrb)).trans hb, Nat.zero_le _, h2, fun i hi => absurd hi (Nat.not_lt_zero _), h4, h5⟩, xFr_up hr (fun z => z) (by simp)⟩
set_option maxRecDepth 100000 in
set_option maxHeartbeats 4000000 in
theorem c_Ro_addByte {l : Launch} {D : va_G} {H0 : Heap} {X : xH} {r b cap d : Nat} {bs : List Int32} {x : Int32} (hR : xRow D X r b cap bs) (hx : isb x) (hd : isR cap (bs.length + 1) d) (hd2 : d ≤ 32767) : xMet l D H0 y_Ro_addByte b_Ro_addByte 2 none [] 1 (d - cap) (2 * (d - cap)) [.ref r, .int x] X (fun o X' => o = .inl none ∧ xAdd D X X' r b d (bs ++ [x])) := by
  obtain ⟨f, hr, hb, h1, h2, h3, h4, h5⟩ := hR
  refine ⟨[some (.ref r), some (.int x)], rfl, Nat.le_of_ble_eq_true rfl, fun E hD hH hl _ C => ?_⟩
  subst hD
  subst hH
  subst hl
  have hrb : r ≠ b := xne hr hb (by intro h; cases h)
  have tail : ∀ (Y : xH) (b' k n : Nat) (g : Nat → Int32), k ≤ d - cap → n ≤ 2 * (d - cap) → bs.length < d → Y r = some (.inr (3, [.ref b', .int (nI bs.length)])) → Y b' = some (.inl (E.D.1 100, d, .inl g)) → xby d g → (∀ i, i < bs.length → g i = bs.getD i 0) → xFr [r, b] X Y → (b' = b ∨ X b' = none) → xG E Y k n 41 [some (.ref r), some (.int x)] [] := by
    intro Y b' k n g hk hn hlt hYr hYb hg1 hg2 hfr hbb
    have hrb' : r ≠ b' := xne hYr hYb (by intro h; cases h)
    refine xr_aload_n C d_Ro_addByte_41 42 rfl rfl ?_
    refine xr_get C K_Ro 1 d_Ro_addByte_42 45 rfl q_109 (Or.inl rfl) rfl (by first | assumption | exact xup_self | exact (xup_ne (by assumption)).trans (by assumption) | exact (xup_ne (Ne.symm (by assumption))).trans (by assumption) | exact (xup_ne (by assumption)).trans xup_self | exact (xup_ne (Ne.symm (by assumption))).trans xup_self) rfl ?_
    refine xr_aload_n C d_Ro_addByte_45 46 rfl rfl ?_
    refine xr_get C K_Ro 0 d_Ro_addByte_46 49 rfl q_107 (Or.inl rfl) rfl (by first | assumption | exact xup_self | exact (xup_ne (by assumption)).trans (by assumption) | exact (xup_ne (Ne.symm (by assumption))).trans (by assumption) | exact (xup_ne (by assumption)).trans xup_self | exact (xup_ne (Ne.symm (by assumption))).trans xup_self) rfl ?_
    refine xr_alen (t0 := 0) C rfl d_Ro_addByte_49 50 rfl hYb ?_
    refine xr_icmp_ge C d_Ro_addByte_50 53 73 rfl (by decide) (fun h => absurd h (nI_ge hlt (by omega))) (fun _ => ?_)
    refine xr_aload_n C d_Ro_addByte_53 54 rfl rfl ?_
    refine xr_get C K_Ro 0 d_Ro_addByte_54 57 rfl q_107 (Or.inl rfl) rfl (by first | assumption | exact xup_self | exact (xup_ne (by assumption)).trans (by assumption) | exact (xup_ne (Ne.symm (by assumption))).trans (by assumption) | exact (xup_ne (by assumption)).trans xup_self | exact (xup_ne (Ne.symm (by assumption))).trans xup_self) rfl ?_
    refine xr_aload_n C d_Ro_addByte_57 58 rfl rfl ?_
    refine xr_get C K_Ro 1 d_Ro_addByte_58 61 rfl q_109 (Or.inl rfl) rfl (by first | assumption | exact xup_self | exact (xup_ne (by assumption)).trans (by assumption) | exact (xup_ne (Ne.symm (by assumption))).trans (by assumption) | exact (xup_ne (by assumption)).trans xup_self | exact (xup_ne (Ne.symm (by assumption))).trans xup_self) rfl ?_
    refine xr_iload_n C d_Ro_addByte_61 62 rfl rfl ?_
    refine xr_bast C d_Ro_addByte_62 63 rfl hYb rfl hlt (by omega) ?_
    refine xr_aload_n C d_Ro_addByte_63 64 rfl rfl ?_
    refine xr_dup C d_Ro_addByte_64 65 rfl rfl ?_
    refine xr_get C K_Ro 1 d_Ro_addByte_65 68 rfl q_109 (Or.inl rfl) rfl ((xup_ne hrb').trans hYr) rfl ?_
    refine xr_iconst (v := 1) C d_Ro_addByte_68 69 rfl (by decide) ?_
    refine xr_iadd C d_Ro_addByte_69 70 rfl ?_
    refine xr_toi (nI_one _) ?_
    refine xr_put C K_Ro 1 d_Ro_addByte_70 73 rfl q_109 (Or.inl rfl) rfl rfl rfl rfl ((xup_ne hrb').trans hYr) rfl rfl ?_
    refine xr_vret C d_Ro_addByte_73 (by omega) (by omega) ⟨rfl, b', ⟨upd g bs.length x, ?_, (xup_ne (Ne.symm hrb')).trans (by rw [isb_nar hx]; exact xup_self), ?_, fun i hi => ?_, fun i hi => ?_, ?_, hd2⟩, ?_, hbb⟩
    · rw [List.length_append, List.length_singleton]
      exact xup_self
    · rw [List.length_append, List.length_singleton]
      omega
    · by_cases h : i = bs.length
      · subst h
        rw [pk_us]
        exact hx
      · rw [pk_un h]
        exact hg1 i hi
    · rw [getD_snocB hi]
      by_cases h : i < bs.length
      · rw [if_pos h, pk_un (by omega)]
        exact hg2 i h
      · rw [if_neg h, show i = bs.length by rw [List.length_append, List.length_singleton] at hi; omega, pk_us]
    · have := hd.le
      omega
    · rcases hbb with e | e
      · subst e
        exact (hfr.at hb (fun z => absurd z (show cap ≠ 0 by omega)) (by simp)).at hr (fun z => z) (by simp)
      · exact (hfr.fresh e).at hr (fun z => z) (by simp)
  refine xr_aload_n C d_Ro_addByte_0 1 rfl rfl ?_
  refine xr_get C K_Ro 1 d_Ro_addByte_1 4 rfl q_109 (Or.inl rfl) rfl (by first | assumption | exact xup_self | exact (xup_ne (by assumption)).trans (by assumption) | exact (xup_ne (Ne.symm (by assumption))).trans (by assumption) | exact (xup_ne (by assumption)).trans xup_self | exact (xup_ne (Ne.symm (by assumption))).trans xup_self) rfl ?_
  refine xr_aload_n C d_Ro_addByte_4 5 rfl rfl ?_
  refine xr_get C K_Ro 0 d_Ro_addByte_5 8 rfl q_107 (Or.inl rfl) rfl (by first | assumption | exact xup_self | exact (xup_ne (by assumption)).trans (by assumption) | exact (xup_ne (Ne.symm (by assumption))).trans (by assumption) | exact (xup_ne (by assumption)).trans xup_self | exact (xup_ne (Ne.symm (by assumption))).trans xup_self) rfl ?_
  refine xr_alen (t0 := 0) C rfl d_Ro_addByte_8 9 rfl hb ?_
  rcases hd.one h1 (by omega) with ⟨q1, q2⟩ | ⟨q1, q2⟩
  · refine xr_icmp_lt C d_Ro_addByte_9 12 41 rfl (by decide) (fun _ => ?_) (fun h => absurd (nI_lt q1 (by omega)) h)
    subst q2
    exact tail X b 0 0 f (by omega) (by omega) q1 hr hb h2 h3 xFr.rf (Or.inl rfl)
  · refine xr_icmp_lt C d_Ro_addByte_9 12 41 rfl (by decide) (fun h => absurd h (nI_nlt (by show cap ≤ _; omega) (by omega))) (fun _ => ?_)
    refine xr_aload_n C d_Ro_addByte_12 13 rfl rfl ?_
    refine xr_get C K_Ro 0 d_Ro_addByte_13 16 rfl q_107 (Or.inl rfl) rfl (by first | assumption | exact xup_self | exact (xup_ne (by assumption)).trans (by assumption) | exact (xup_ne (Ne.symm (by assumption))).trans (by assumption) | exact (xup_ne (by assumption)).trans xup_self | exact (xup_ne (Ne.symm (by assumption))).trans xup_self) rfl ?_
    refine xr_alen (t0 := 0) C rfl d_Ro_addByte_16 17 rfl hb ?_
    refine xr_sipush (v := 16384) C d_Ro_addByte_17 20 rfl (by decide) ?_
    refine xr_toi (show _ = nI 16384 from rfl) ?_
    refine xr_icmp_ge C d_Ro_addByte_20 23 41 rfl (by decide) (fun h => absurd h (nI_ge (show cap < 16384 by omega) (by omega))) (fun _ => ?_)
    refine xr_aload_n C d_Ro_addByte_23 24 rfl rfl ?_
    refine xr_aload_n C d_Ro_addByte_24 25 rfl rfl ?_
    refine xr_get C K_Ro 0 d_Ro_addByte_25 28 rfl q_107 (Or.inl rfl) rfl (by first | assumption | exact xup_self | exact (xup_ne (by assumption)).trans (by assumption) | exact (xup_ne (Ne.symm (by assumption))).trans (by assumption) | exact (xup_ne (by assumption)).trans xup_self | exact (xup_ne (Ne.symm (by assumption))).trans xup_self) rfl ?_
    refine xr_iconst (v := 2) C d_Ro_addByte_28 29 rfl (by decide) ?_
    refine xr_aload_n C d_Ro_addByte_29 30 rfl rfl ?_
    refine xr_get C K_Ro 0 d_Ro_addByte_30 33 rfl q_107 (Or.inl rfl) rfl (by first | assumption | exact xup_self | exact (xup_ne (by assumption)).trans (by assumption) | exact (xup_ne (Ne.symm (by assumption))).trans (by assumption) | exact (xup_ne (by assumption)).trans xup_self | exact (xup_ne (Ne.symm (by assumption))).trans xup_self) rfl ?_
    refine xr_alen (t0 := 0) C rfl d_Ro_addByte_33 34 rfl hb ?_
    refine xr_imul C d_Ro_addByte_34 35 rfl ?_
    refine xr_toi (show _ = nI d from (pk_mul 2 cap).trans (by rw [q2])) ?_
    refine xG.wide (c2 := 0) (s2 := 2 * (d - cap) - d) (by omega) (by omega) ?_
    refine xr_callS C (c_AR_copyB hb (by omega) (by omega) (by omega) (by omega) h2) k_AR_copyB d_Ro_addByte_35 38 rfl (Or.inl q_451) s_AR_copyB in_AR_copyB h_AR_copyB rfl ⟨Nat.le_of_ble_eq_true rfl, Nat.le_of_ble_eq_true rfl, Nat.le_of_ble_eq_true rfl⟩ (by omega) (by omega) (fun v9 X' hP => ?_) (fun _ _ h => by obtain ⟨q, h, -⟩ := h; cases h)
    obtain ⟨q, e1, e2, rfl⟩ := hP
    cases e1
    have hqr : q ≠ r := Ne.symm (xne_none hr e2)
    refine xr_put C K_Ro 0 d_Ro_addByte_38 41 rfl q_107 (Or.inl rfl) rfl rfl rfl rfl (xup_fresh hr e2) rfl rfl ?_
    refine tail _ q _ _ (va_cpy f (fun _ => 0) 0 0 (if cap < d then cap else d)) (by omega) (by omega) (by omega) xup_self ((xup_ne hqr).trans xup_self) (fun i hi => ?_) (fun i hi => ?_) ((xFr.rf.fresh e2).at hr (fun z => z) (by simp)) (Or.inr e2)
    · rw [if_pos (by omega)]
      by_cases h : i < cap
      · rw [pk_cpy_in (by omega) (by omega)]
        exact h2 _ (by omega)
      · rw [pk_cpy_out (by omega)]
        decide
    · rw [if_pos (by omega), pk_cpy_in (by omega) (by omega), show 0 + (i - 0) = i by omega]
      exact h3 i hi
