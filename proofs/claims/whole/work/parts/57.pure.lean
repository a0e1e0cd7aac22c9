/-! What stays true of the states: their shape. -/
theorem isR.top2 {c n d : Nat} (h : isR c n d) : d ≤ c ∨ d < 2 * n := by
  obtain ⟨j, rfl, h1, h2⟩ := h
  match j with
  | 0 => exact Or.inl (by simp)
  | j + 1 =>
    have := h2 j (by omega)
    refine Or.inr ?_
    rw [Nat.pow_succ]
    have e : c * (2 ^ j * 2) = c * 2 ^ j * 2 := (Nat.mul_assoc _ _ _).symm
    omega
theorem mem_sD {ss : List Ss} {x : Ss} (h : x ∈ ss) : ∃ i, i < ss.length ∧ sD ss i = x := by
  obtain ⟨i, hi, e⟩ := List.mem_iff_getElem.mp h
  refine ⟨i, hi, ?_⟩
  unfold sD
  rw [List.getD_eq_getElem?_getD, List.getElem?_eq_getElem hi]
  exact e
theorem mem_eD {es : List Es} {x : Es} (h : x ∈ es) : ∃ i, i < es.length ∧ eD es i = x := by
  obtain ⟨i, hi, e⟩ := List.mem_iff_getElem.mp h
  refine ⟨i, hi, ?_⟩
  unfold eD
  rw [List.getD_eq_getElem?_getD, List.getElem?_eq_getElem hi]
  exact e
theorem xBy.isbs {D : va_G} {X : xH} {a : Nat} {bs : List Int32} (h : xBy D X a bs) : isbs bs := by
  obtain ⟨-, f, -, h2⟩ := h
  exact fun i hi => (h2 i hi).2
theorem xMac.wf {D : va_G} {X : xH} {I : Nat → Option Imm} {a ls bs cs mp la be ce : Nat} {as1 as2 : List Nat} {ss : List Ss} {es : List Es} {g : Int32} (h : xMac D X I a ls bs cs mp la be ce as1 as2 ss es g) (hI : xIm D X I) : okS ss ∧ okM es ∧ okB es ∧ ∀ x ∈ ss, isbs x.2.2.2.2 := by
  obtain ⟨ha, hL, hE, hok, hM, hll, hbb⟩ := h
  refine ⟨hok, hM.2.2.2, fun e he => ?_, fun x hx => ?_⟩
  · obtain ⟨i, hi, rfl⟩ := mem_eD he
    obtain ⟨k, v, -, h2, h3⟩ := hM.2.2.1.2 i (by rw [hM.2.2.1.1]; exact hi)
    exact ⟨xBy.isbs (hI _ _ h2), xBy.isbs (hI _ _ h3)⟩
  · obtain ⟨i, hi, rfl⟩ := mem_sD hx
    obtain ⟨q, -, h2⟩ := hE.2 i (by rw [hE.1]; exact hi)
    exact xBy.isbs (hI _ _ h2)
theorem xTK.wf {D : va_G} {X : xH} {F V : Nat → Nat} {I : Nat → Option Imm} {S : St} (h : xTK D X F V I S) : wf S := by
  obtain ⟨h1, h2, h3, h4, h5, h6, h7, h8, h9, h10, h11⟩ := h
  obtain ⟨f, t1, t2, t3, t4⟩ := h2
  refine ⟨⟨fun i hi => ?_, t3⟩, fun m hm => ?_⟩
  · rw [← t4 i hi]
    exact t2 i (by omega)
  · have h01 : m = 0 ∨ m = 1 := by omega
    rcases h01 with e | e
    · subst e
      obtain ⟨as1, as2, h⟩ := h9
      exact h.wf h7
    · subst e
      obtain ⟨as1, as2, h⟩ := h10
      exact h.wf h7
theorem xTK.caps {D : va_G} {X : xH} {F V : Nat → Nat} {I : Nat → Option Imm} {S : St} (h : xTK D X F V I S) : V 1 ≤ 32767 ∧ V 20 ≤ 200 ∧ V 21 ≤ 200 ∧ V 40 ≤ 200 ∧ V 41 ≤ 200 := by
  obtain ⟨h1, h2, h3, h4, h5, h6, h7, h8, h9, h10, h11⟩ := h
  obtain ⟨as1, as2, g⟩ := h9
  obtain ⟨as3, as4, k⟩ := h10
  obtain ⟨_, _, -, -, -, l1, -⟩ := g.2.1
  obtain ⟨_, _, -, -, -, l2, -⟩ := k.2.1
  obtain ⟨_, _, -, -, -, l3, -⟩ := g.2.2.2.2.1.2.1
  obtain ⟨_, _, -, -, -, l4, -⟩ := k.2.2.2.2.1.2.1
  obtain ⟨f, r1, r2, r3, r4, r5, r6, r7⟩ := h5
  exact ⟨r7, l1, l2, l3, l4⟩
theorem dst.mono {ss : List Ss} {g g' : Int32} (h : dst ss g) (hg : g ≤ g') : dst ss g' := ⟨fun i hi => Int32.le_trans (h.1 i hi) hg, h.2⟩
theorem dst_nil {g : Int32} : dst [] g := ⟨fun i hi => absurd hi (Nat.not_lt_zero _), fun i j hi => absurd hi (Nat.not_lt_zero _)⟩
theorem dst.set {ss : List Ss} {g : Int32} {j : Nat} {x : Ss} (h : dst ss g) (hj : j < ss.length) (hx : x.1 = (sD ss j).1) : dst (ss.set j x) g := by
  have e : ∀ i, (sD (ss.set j x) i).1 = (sD ss i).1 := by
    intro i
    unfold sD
    rw [getDg_set hj]
    by_cases q : i = j
    · rw [if_pos q, q]
      exact hx
    · rw [if_neg q]
  refine ⟨fun i hi => ?_, fun a b ha hb hab => ?_⟩
  · rw [e]
    exact h.1 i (by rw [List.length_set] at hi; exact hi)
  · rw [e, e] at hab
    rw [List.length_set] at ha hb
    exact h.2 a b ha hb hab
theorem dst.erase {ss : List Ss} {g : Int32} {j : Nat} (h : dst ss g) (hj : j < ss.length) : dst (ss.eraseIdx j) g := by
  have hl : (ss.eraseIdx j).length = ss.length - 1 := List.length_eraseIdx_of_lt hj
  have e : ∀ i, sD (ss.eraseIdx j) i = if i < j then sD ss i else sD ss (i + 1) := fun i => getDg_erase
  refine ⟨fun i hi => ?_, fun a b ha hb hab => ?_⟩
  · rw [hl] at hi
    rw [e]
    by_cases q : i < j
    · rw [if_pos q]
      exact h.1 i (by omega)
    · rw [if_neg q]
      exact h.1 (i + 1) (by omega)
  · rw [hl] at ha hb
    rw [e, e] at hab
    by_cases qa : a < j
    · by_cases qb : b < j
      · rw [if_pos qa, if_pos qb] at hab
        exact h.2 a b (by omega) (by omega) hab
      · rw [if_pos qa, if_neg qb] at hab
        have := h.2 a (b + 1) (by omega) (by omega) hab
        omega
    · by_cases qb : b < j
      · rw [if_neg qa, if_pos qb] at hab
        have := h.2 (a + 1) b (by omega) (by omega) hab
        omega
      · rw [if_neg qa, if_neg qb] at hab
        have := h.2 (a + 1) (b + 1) (by omega) (by omega) hab
        omega
theorem dst.snoc {ss : List Ss} {g : Int32} {x : Ss} (h : dst ss g) (hx : g < x.1) : dst (ss ++ [x]) x.1 := by
  have hl : (ss ++ [x]).length = ss.length + 1 := by rw [List.length_append]; rfl
  have e : ∀ i, i < ss.length + 1 → sD (ss ++ [x]) i = if i < ss.length then sD ss i else x := fun i hi => getDg_snoc hi
  refine ⟨fun i hi => ?_, fun a b ha hb hab => ?_⟩
  · rw [hl] at hi
    rw [e i hi]
    by_cases q : i < ss.length
    · rw [if_pos q]
      exact Int32.le_trans (h.1 i q) (Int32.le_of_lt hx)
    · rw [if_neg q]
      exact Int32.le_refl _
  · rw [hl] at ha hb
    rw [e a ha, e b hb] at hab
    by_cases qa : a < ss.length
    · by_cases qb : b < ss.length
      · rw [if_pos qa, if_pos qb] at hab
        exact h.2 a b qa qb hab
      · rw [if_pos qa, if_neg qb] at hab
        have := h.1 a qa
        rw [hab] at this
        exact absurd hx (Int32.not_lt.mpr this)
    · by_cases qb : b < ss.length
      · rw [if_neg qa, if_pos qb] at hab
        have := h.1 b qb
        rw [← hab] at this
        exact absurd hx (Int32.not_lt.mpr this)
      · omega
theorem dst.opn {ss : List Ss} {g p : Int32} (h : dst ss g) (hp : g < p) : dst (opS ss p) p := by
  unfold opS
  refine dst.snoc (g := g) (x := (p, p, 0, p, [])) ?_ hp
  split
  · next h16 =>
    have := luf_le ss (ss.length - 1)
    exact h.erase (show lu ss < ss.length by unfold lu; omega)
  · exact h
theorem inv2.up {S : St} (hV : inv2 S) {i : Nat} {m : Mc} {ts res : List Int32} {lp : Int32} (hm : i < 2 → dst m.1 m.2.2) (hr : res.length ≤ 14400) : inv2 (ts, upM S.2.1 i m, res, lp) := by
  refine ⟨fun k hk => ?_, hr⟩
  by_cases e : k = i
  · subst e
    show dst (upM S.2.1 k m k).1 (upM S.2.1 k m k).2.2
    rw [upM_self]
    exact hm hk
  · show dst (upM S.2.1 i m k).1 (upM S.2.1 i m k).2.2
    rw [upM_ne e]
    exact hV.1 k hk
theorem inv2.rs {S : St} (hV : inv2 S) {ts res : List Int32} {lp : Int32} (hr : res.length ≤ 14400) : inv2 (ts, S.2.1, res, lp) := ⟨hV.1, hr⟩
theorem inv2_s0 : inv2 s0 := ⟨fun _ _ => dst_nil, Nat.zero_le _⟩
theorem inv2_feed {S : St} (hV : inv2 S) {e : Int64} {n : Int32} : inv2 (fFeed S e n).2.2 := by
  unfold fFeed
  split
  · split
    · exact ⟨hV.1, hV.2⟩
    · exact hV
  · exact hV
theorem mIx2 {z : Int32} (h : z = 0 ∨ z = 1) : mIx z < 2 := by
  rcases h with h | h <;> subst h <;> decide
theorem inv2_key {S : St} (hV : inv2 S) (hW : wf S) {z k x : Int32} : inv2 (fKey S z k x).2.2 := by
  unfold fKey
  split
  · next hz =>
    split
    · next hk =>
      have hw := hW.2 _ (mIx2 hz)
      have hl := hw.2.1.1
      obtain ⟨j, hj, rfl⟩ := nI_of (Int32.not_lt.mpr hk.1)
      have hj2 : j < (S.2.1 (mIx z)).2.1.length := (nI_ltI hj (by omega)).mp hk.2
      have ho := hw.2.1.2.2 _ (eD_mem hj2)
      rw [mIx_nI hj]
      split
      · split
        · exact hV.rs (by have := ho.2.1; show (eD _ _).1.length ≤ 14400; omega)
        · exact hV.rs (by have := ho.2.2; show (eD _ _).2.length ≤ 14400; omega)
      · exact hV
    · exact hV
  · exact hV
theorem inv2_clear {S : St} (hV : inv2 S) {z : Int32} : inv2 (fClear S z).2.2 := by
  unfold fClear
  split
  · exact hV.up (fun _ => dst_nil) hV.2
  · exact hV
theorem inv2_open {S : St} (hV : inv2 S) {z p : Int32} : inv2 (fOpen S z p).2.2 := by
  unfold fOpen
  split
  · split
    · next hp => exact hV.up (fun h => (hV.1 _ h).opn hp.1) hV.2
    · exact hV
  · exact hV
theorem lookF_len {h : Nat} {es : List Es} {ts : List Int32} (ho : ∀ e ∈ es, okE e) : (lookF h es ts).length ≤ 134 := by
  unfold lookF
  split
  · have := (tvK_len (k := sl ts 0 (h / 8)) ho).2
    omega
  · split
    · rw [num_len]
      omega
    · unfold nxK
      split
      · next hc =>
        have := (ho _ (eD_mem hc)).2
        simp only [List.length_append, num_len]
        omega
      · rw [num_len]
        omega
theorem inv2_read {S : St} (hV : inv2 S) (hW : wf S) {z h : Int32} : inv2 (fRead S z h).2.2 := by
  unfold fRead
  split
  · next hz =>
    split
    · refine hV.rs ?_
      have := lookF_len (h := mIx h) (ts := S.1) (hW.2 _ (mIx2 hz)).2.1.2.2
      omega
    · exact ⟨hV.1, hV.2⟩
  · exact ⟨hV.1, hV.2⟩
theorem inv2_row {S : St} (hV : inv2 S) (hW : wf S) {z : Int32} : inv2 (fRow S z).2.2 := by
  unfold fRow
  split
  · next hz =>
    refine hV.rs ?_
    have hw := hW.2 _ (mIx2 hz)
    have := rb_top hw.1 hw.2.1
    rw [telM_len]
    omega
  · exact hV
theorem inv2_make {S : St} (hV : inv2 S) {z1 z2 : Int32} : inv2 (fMake S z1 z2).2.2 := by
  unfold fMake
  split
  · next hz =>
    refine hV.up (fun _ => ?_) hV.2
    refine (hV.1 _ (mIx2 hz.1)).mono ?_
    show _ ≤ (if _ then _ else _)
    split
    · exact Int32.le_refl _
    · next h => exact Int32.not_lt.mp h
  · exact hV
theorem inv2_run {S : St} (hV : inv2 S) (hW : wf S) {z p sn sr h : Int32} : inv2 (fRun S z p sn sr h).2.2 := by
  unfold fRun
  split
  · next hz =>
    have hd := hV.1 _ (mIx2 hz)
    have hw := hW.2 _ (mIx2 hz)
    split
    · next hp =>
      have hgp := Int32.le_of_lt hp.1.1
      split
      · next hj =>
        have hs := hw.1.2 _ (sD_mem hj)
        have ho := (opF_len (s := mIx h) (ts := S.1) hw.2.1.2.2).2
        unfold runAt
        split
        · exact hV.up (fun _ => by refine dst.mono ?_ hgp; refine dst.set hd hj ?_; rfl) (Nat.zero_le _)
        · split
          · exact hV.up (fun _ => by refine dst.mono ?_ hgp; refine dst.set hd hj ?_; rfl) (Nat.le_trans hs (by decide))
          · exact hV.up (fun _ => by refine dst.mono ?_ hgp; refine dst.set hd hj ?_; rfl) (Nat.le_trans ho (by decide))
      · exact hV.up (fun _ => hd.mono hgp) (Nat.zero_le _)
    · exact ⟨hV.1, hV.2⟩
  · exact ⟨hV.1, hV.2⟩
