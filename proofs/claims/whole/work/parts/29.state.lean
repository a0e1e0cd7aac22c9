/-! The whole object. -/
abbrev Mc := List Ss × List Es × Int32
abbrev St := List Int32 × (Nat → Mc) × List Int32 × Int32
/-- a machine: its fixed addresses in F, its arrays and their rooms in V -/
def xMm (D : va_G) (X : xH) (I : Nat → Option Imm) (F V : Nat → Nat) (i : Nat) (m : Mc) : Prop := ∃ as1 as2, xMac D X I (F (10 + i)) (F (20 + i)) (V (10 + i)) (V (20 + i)) (F (30 + i)) (F (40 + i)) (V (30 + i)) (V (40 + i)) as1 as2 m.1 m.2.1 m.2.2
def xTK (D : va_G) (X : xH) (F V : Nat → Nat) (I : Nat → Option Imm) (s : St) : Prop :=
  X (F 0) = some (.inr (0, [.ref (F 10), .ref (F 11), .ref (F 1), .ref (F 2), .int (nI s.1.length), .int s.2.2.2])) ∧ xTape D X (F 1) s.1 ∧ I (F 1) = none ∧ F 1 ≠ V 0 ∧ xRow D X (F 2) (V 0) (V 1) s.2.2.1 ∧ I (V 0) = none ∧ xIm D X I ∧ I (D.2 200 0) = some (.inl []) ∧ xMm D X I F V 0 (s.2.1 0) ∧ xMm D X I F V 1 (s.2.1 1) ∧ xSep X (F 10) (F 20) (V 10) (F 30) (F 40) (V 30) (F 11) (F 21) (V 11) (F 31) (F 41) (V 31)
def vU (V : Nat → Nat) (i bs cs be ce br rc : Nat) : Nat → Nat := fun k => if k = 0 then br else if k = 1 then rc else if k = 10 + i then bs else if k = 20 + i then cs else if k = 30 + i then be else if k = 40 + i then ce else V k
theorem vU_id {V : Nat → Nat} {i : Nat} : vU V i (V (10 + i)) (V (20 + i)) (V (30 + i)) (V (40 + i)) (V 0) (V 1) = V := by
  funext k
  unfold vU
  split
  · next h => rw [h]
  · split
    · next h => rw [h]
    · split
      · next h => rw [h]
      · split
        · next h => rw [h]
        · split
          · next h => rw [h]
          · split
            · next h => rw [h]
            · rfl
/-- the object, looked at from machine i: xOw, and the other -/
def xOw (D : va_G) (X : xH) (F V : Nat → Nat) (I : Nat → Option Imm) (i : Nat) (m o : Mc) (bs cs be ce br rc : Nat) (ts res : List Int32) (n lp : Int32) (as1 as2 : List Nat) : Prop :=
  X (F 0) = some (.inr (0, [.ref (F 10), .ref (F 11), .ref (F 1), .ref (F 2), .int n, .int lp])) ∧ xTape D X (F 1) ts ∧ I (F 1) = none ∧ F 1 ≠ br ∧ xRow D X (F 2) br rc res ∧ I br = none ∧ xIm D X I ∧ I (D.2 200 0) = some (.inl []) ∧ xMac D X I (F (10 + i)) (F (20 + i)) bs cs (F (30 + i)) (F (40 + i)) be ce as1 as2 m.1 m.2.1 m.2.2 ∧ xMm D X I F V (1 - i) o ∧ xSep X (F (10 + i)) (F (20 + i)) bs (F (30 + i)) (F (40 + i)) be (F (10 + (1 - i))) (F (20 + (1 - i))) (V (10 + (1 - i))) (F (30 + (1 - i))) (F (40 + (1 - i))) (V (30 + (1 - i)))
theorem xTK.ow {D : va_G} {X : xH} {F V : Nat → Nat} {I : Nat → Option Imm} {s : St} (h : xTK D X F V I s) {i : Nat} (hi : i < 2) : ∃ as1 as2, xOw D X F V I i (s.2.1 i) (s.2.1 (1 - i)) (V (10 + i)) (V (20 + i)) (V (30 + i)) (V (40 + i)) (V 0) (V 1) s.1 s.2.2.1 (nI s.1.length) s.2.2.2 as1 as2 := by
  obtain ⟨h1, h2, h3, h4, h5, h6, h7, h8, h9, h10, h11⟩ := h
  match i, hi with
  | 0, _ =>
    obtain ⟨as1, as2, h⟩ := h9
    exact ⟨as1, as2, h1, h2, h3, h4, h5, h6, h7, h8, h, h10, h11⟩
  | 1, _ =>
    obtain ⟨as1, as2, h⟩ := h10
    exact ⟨as1, as2, h1, h2, h3, h4, h5, h6, h7, h8, h, h9, h11.symm⟩
theorem xOw.tk {D : va_G} {X : xH} {F V : Nat → Nat} {I : Nat → Option Imm} {i : Nat} {m o : Mc} {bs cs be ce br rc : Nat} {ts res : List Int32} {lp : Int32} {as1 as2 : List Nat} {M : Nat → Mc} (h : xOw D X F V I i m o bs cs be ce br rc ts res (nI ts.length) lp as1 as2) (hi : i < 2) (hm : M i = m) (ho : M (1 - i) = o) : xTK D X F (vU V i bs cs be ce br rc) I (ts, M, res, lp) := by
  obtain ⟨h1, h2, h3, h4, h5, h6, h7, h8, h9, h10, h11⟩ := h
  subst hm
  subst ho
  obtain ⟨W, hW⟩ : ∃ W, W = vU V i bs cs be ce br rc := ⟨_, rfl⟩
  rw [← hW]
  have w0 : W 0 = br := by rw [hW]; exact if_pos rfl
  have w1 : W 1 = rc := by rw [hW]; exact (if_neg (by omega)).trans (if_pos rfl)
  have w10 : W (10 + i) = bs := by rw [hW]; exact (if_neg (by omega)).trans ((if_neg (by omega)).trans (if_pos rfl))
  have w20 : W (20 + i) = cs := by rw [hW]; exact (if_neg (by omega)).trans ((if_neg (by omega)).trans ((if_neg (by omega)).trans (if_pos rfl)))
  have w30 : W (30 + i) = be := by rw [hW]; exact (if_neg (by omega)).trans ((if_neg (by omega)).trans ((if_neg (by omega)).trans ((if_neg (by omega)).trans (if_pos rfl))))
  have w40 : W (40 + i) = ce := by rw [hW]; exact (if_neg (by omega)).trans ((if_neg (by omega)).trans ((if_neg (by omega)).trans ((if_neg (by omega)).trans ((if_neg (by omega)).trans (if_pos rfl)))))
  have wo : ∀ k, 2 ≤ k → k ≠ 10 + i → k ≠ 20 + i → k ≠ 30 + i → k ≠ 40 + i → W k = V k := fun k k1 k2 k3 k4 k5 => by rw [hW]; exact (if_neg (by omega)).trans ((if_neg (by omega)).trans ((if_neg k2).trans ((if_neg k3).trans ((if_neg k4).trans (if_neg k5)))))
  have o10 := wo (10 + (1 - i)) (by omega) (by omega) (by omega) (by omega) (by omega)
  have o20 := wo (20 + (1 - i)) (by omega) (by omega) (by omega) (by omega) (by omega)
  have o30 := wo (30 + (1 - i)) (by omega) (by omega) (by omega) (by omega) (by omega)
  have o40 := wo (40 + (1 - i)) (by omega) (by omega) (by omega) (by omega) (by omega)
  clear wo hW
  subst w0 w1 w10 w20 w30 w40
  have q10 : xMm D X I F W (1 - i) (M (1 - i)) := by
    unfold xMm
    rw [o10, o20, o30, o40]
    exact h10
  rw [← o10, ← o30] at h11
  have q9 : xMm D X I F W i (M i) := ⟨as1, as2, h9⟩
  have h01 : i = 0 ∨ i = 1 := by omega
  rcases h01 with e | e
  · subst e
    exact ⟨h1, h2, h3, h4, h5, h6, h7, h8, q9, q10, h11⟩
  · subst e
    exact ⟨h1, h2, h3, h4, h5, h6, h7, h8, q10, q9, h11.symm⟩
theorem xMac.le {D : va_G} {X : xH} {I I' : Nat → Option Imm} {a ls bs cs mp la be ce : Nat} {as1 as2 : List Nat} {ss : List Ss} {es : List Es} {g : Int32} (h : xMac D X I a ls bs cs mp la be ce as1 as2 ss es g) (hl : imLe I I') : xMac D X I' a ls bs cs mp la be ce as1 as2 ss es g := by
  obtain ⟨ha, hL, hE, hok, hM, hll, hbb⟩ := h
  exact ⟨ha, hL, hE.le hl, hok, hM.le hl, hll, hbb⟩
theorem xSep.new {X X' : xH} {S : List Nat} {a ls bs mp la be a' ls' bs' mp' la' be' b1 b2 : Nat} {v1 v2 : va_E} (h : xSep X a ls bs mp la be a' ls' bs' mp' la' be') (hf : xFr S X X') (n1 : b1 = bs ∨ X b1 = none) (n2 : b2 = be ∨ X b2 = none) (e1 : X bs' = some v1) (e2 : X be' = some v2) : xSep X' a ls b1 mp la b2 a' ls' bs' mp' la' be' := by
  obtain ⟨h1, h2, h3, h4, h5, h6, h7, h8, h9, h10⟩ := h
  exact ⟨h1, h2, h3, h4, h5, h6, h7.new hf n1 e1, h8.new hf n1 e2, h9.new hf n2 e1, h10.new hf n2 e2⟩
section XO
variable {D : va_G} {X X' : xH} {F V : Nat → Nat} {I I' : Nat → Option Imm} {i : Nat} {m o m' : Mc} {bs cs be ce br rc b1 c1 b2 c2 br' rc' : Nat} {ts res res' : List Int32} {n lp n' lp' : Int32} {as1 as2 as1' as2' : List Nat}
/-- the machine has changed -/
theorem xOw.mach (h : xOw D X F V I i m o bs cs be ce br rc ts res n lp as1 as2) (hx : imX X I I') (hI : xIm D X' I') (hm : xMac D X' I' (F (10 + i)) (F (20 + i)) b1 c1 (F (30 + i)) (F (40 + i)) b2 c2 as1' as2' m'.1 m'.2.1 m'.2.2) (hf : xFr [F (10 + i), F (20 + i), bs, F (30 + i), F (40 + i), be] X X') (n1 : b1 = bs ∨ X b1 = none) (n2 : b2 = be ∨ X b2 = none) : xOw D X' F V I' i m' o b1 c1 b2 c2 br rc ts res n lp as1' as2' := by
  obtain ⟨h1, h2, h3, h4, h5, h6, h7, h8, h9, h10, h11⟩ := h
  obtain ⟨ha, hL, hE, hok, hM, hll, hbb⟩ := id h9
  obtain ⟨vl, hl⟩ := hL.ob
  obtain ⟨fb, hb⟩ := hL.ar
  obtain ⟨vk, hk⟩ := hM.2.1.ob
  obtain ⟨fe, he⟩ := hM.2.1.ar
  have hmm := hM.1
  obtain ⟨ft, ht, htt⟩ := id h2
  obtain ⟨fr, hr⟩ := h5.arr
  have hra := h5.at
  obtain ⟨a3, a4, hB⟩ := h10
  obtain ⟨fb', hb'⟩ := hB.2.1.ar
  obtain ⟨fe', he'⟩ := hB.2.2.2.2.1.2.1.ar
  refine ⟨hf.use h1 ?_, h2.keep hf ?_, hx.2 _ _ ht h3, h4, h5.keep hf ?_ ?_, hx.2 _ _ hr h6, hI, hx.1 _ _ h8, hm, ⟨a3, a4, (h9.keepO hB h11 hf).le hx.1⟩, h11.new hf n1 n2 hb' he'⟩
  · simp only [List.mem_cons, List.not_mem_nil, or_false, not_or]
    exact ⟨xne h1 ha (by intro h; cases h), xne h1 hl (by intro h; cases h), xne h1 hb (by intro h; cases h), xne h1 hmm (by intro h; cases h), xne h1 hk (by intro h; cases h), xne h1 he (by intro h; cases h)⟩
  · simp only [List.mem_cons, List.not_mem_nil, or_false, not_or]
    exact ⟨xne ht ha (by intro h; cases h), xne ht hl (by intro h; cases h), (xne hb ht xkd).symm, xne ht hmm (by intro h; cases h), xne ht hk (by intro h; cases h), (xne he ht xkd).symm⟩
  · simp only [List.mem_cons, List.not_mem_nil, or_false, not_or]
    exact ⟨xne hra ha (by intro h; cases h), xne hra hl (by intro h; cases h), xne hra hb (by intro h; cases h), xne hra hmm (by intro h; cases h), xne hra hk (by intro h; cases h), xne hra he (by intro h; cases h)⟩
  · simp only [List.mem_cons, List.not_mem_nil, or_false, not_or]
    exact ⟨xne hr ha (by intro h; cases h), xne hr hl (by intro h; cases h), (xne hb hr xkd).symm, xne hr hmm (by intro h; cases h), xne hr hk (by intro h; cases h), (xne he hr xkd).symm⟩
/-- the row has changed -/
theorem xOw.row (h : xOw D X F V I i m o bs cs be ce br rc ts res n lp as1 as2) (hI : xIm D X' I) (hr : xRow D X' (F 2) br' rc' res') (hb : I br' = none) (hf : xFr [F 2, br] X X') (hn : br' = br ∨ X br' = none) : xOw D X' F V I i m o bs cs be ce br' rc' ts res' n lp as1 as2 := by
  obtain ⟨h1, h2, h3, h4, h5, h6, h7, h8, h9, h10, h11⟩ := h
  obtain ⟨a3, a4, hB⟩ := h10
  obtain ⟨ft, ht, htt⟩ := id h2
  obtain ⟨fr, hr0⟩ := h5.arr
  obtain ⟨fb, hb1⟩ := h9.2.1.ar
  obtain ⟨fe, he1⟩ := h9.2.2.2.2.1.2.1.ar
  obtain ⟨fb', hb'⟩ := hB.2.1.ar
  obtain ⟨fe', he'⟩ := hB.2.2.2.2.1.2.1.ar
  refine ⟨hf.use h1 ?_, h2.keep hf ?_, h3, ?_, hr, hb, hI, h8, h9.keepR h5 hf, ⟨a3, a4, hB.keepR h5 hf⟩, h11.new hf (Or.inl rfl) (Or.inl rfl) hb' he'⟩
  · simp only [List.mem_cons, List.not_mem_nil, or_false, not_or]
    exact ⟨xne h1 h5.at (by intro h; cases h), xne h1 hr0 (by intro h; cases h)⟩
  · simp only [List.mem_cons, List.not_mem_nil, or_false, not_or]
    exact ⟨xne ht h5.at (by intro h; cases h), h4⟩
  · rcases hn with e | e
    · rw [e]
      exact h4
    · exact xne_none ht e
/-- fields of the object itself have changed -/
theorem xOw.self (h : xOw D X F V I i m o bs cs be ce br rc ts res n lp as1 as2) : xOw D (xup X (F 0) (.inr (0, [.ref (F 10), .ref (F 11), .ref (F 1), .ref (F 2), .int n', .int lp']))) F V I i m o bs cs be ce br rc ts res n' lp' as1 as2 := by
  obtain ⟨h1, h2, h3, h4, h5, h6, h7, h8, h9, h10, h11⟩ := h
  have hf : xFr [F 0] X (xup X (F 0) (.inr (0, [.ref (F 10), .ref (F 11), .ref (F 1), .ref (F 2), .int n', .int lp']))) := xFr_up h1 (fun z => z) (by simp)
  have one : ∀ {q : Nat} {v : va_E}, X q = some v → (∀ fs, v ≠ .inr (0, fs)) → q ∉ [F 0] := fun hq hv => by
    rw [List.mem_singleton]
    exact xne hq h1 (hv _)
  have mk : ∀ {j : Nat} {mm : Mc} {a b c d : Nat} {x1 x2 : List Nat}, xMac D X I (F (10 + j)) (F (20 + j)) a b (F (30 + j)) (F (40 + j)) c d x1 x2 mm.1 mm.2.1 mm.2.2 → xMac D (xup X (F 0) (.inr (0, [.ref (F 10), .ref (F 11), .ref (F 1), .ref (F 2), .int n', .int lp']))) I (F (10 + j)) (F (20 + j)) a b (F (30 + j)) (F (40 + j)) c d x1 x2 mm.1 mm.2.1 mm.2.2 := by
    intro j mm a b c d x1 x2 hm
    obtain ⟨ha, hL, hE, hok, hM, hll, hbb⟩ := id hm
    obtain ⟨vl, hl⟩ := hL.ob
    obtain ⟨fb, hb⟩ := hL.ar
    obtain ⟨vk, hk⟩ := hM.2.1.ob
    obtain ⟨fe, he⟩ := hM.2.1.ar
    exact hm.keepS hf (one ha (by intro fs h; cases h)) (one hl (by intro fs h; cases h)) (Or.inl (one hb (by intro fs h; cases h))) (one hM.1 (by intro fs h; cases h)) (one hk (by intro fs h; cases h)) (Or.inl (one he (by intro fs h; cases h)))
  obtain ⟨a3, a4, hB⟩ := h10
  obtain ⟨fb', hb'⟩ := hB.2.1.ar
  obtain ⟨fe', he'⟩ := hB.2.2.2.2.1.2.1.ar
  obtain ⟨ft, ht, htt⟩ := id h2
  obtain ⟨fr, hr0⟩ := h5.arr
  exact ⟨xup_self, h2.keep hf (one ht (by intro fs h; cases h)), h3, h4, h5.keep hf (one h5.at (by intro fs h; cases h)) (one hr0 (by intro fs h; cases h)), h6, h7.up1 h1 (by decide) (by decide), h8, mk h9, ⟨a3, a4, mk hB⟩, h11.new hf (Or.inl rfl) (Or.inl rfl) hb' he'⟩
end XO
/-- how a call ends: r = 0 with a value, or one of the two exceptions -/
def xEnd (c1 c2 : String) (r : Nat × Int32) (o : xO) : Prop := (r.1 = 0 ∧ o = .inl (some (.int r.2))) ∨ (r.1 = 1 ∧ o = .inr c1) ∨ (r.1 = 2 ∧ o = .inr c2)
theorem xEnd_ok {c1 c2 : String} {v : Int32} : xEnd c1 c2 (0, v) (.inl (some (.int v))) := Or.inl ⟨rfl, rfl⟩
theorem xEnd_1 {c1 c2 : String} {v : Int32} : xEnd c1 c2 (1, v) (.inr c1) := Or.inr (Or.inl ⟨rfl, rfl⟩)
theorem xEnd_2 {c1 c2 : String} {v : Int32} : xEnd c1 c2 (2, v) (.inr c2) := Or.inr (Or.inr ⟨rfl, rfl⟩)
def upM (M : Nat → Mc) (i : Nat) (m : Mc) : Nat → Mc := fun k => if k = i then m else M k
theorem upM_self {M : Nat → Mc} {i : Nat} {m : Mc} : upM M i m i = m := if_pos rfl
theorem upM_ne {M : Nat → Mc} {i k : Nat} {m : Mc} (h : k ≠ i) : upM M i m k = M k := if_neg h
theorem oth_ne {i : Nat} (h : i < 2) : 1 - i ≠ i := by omega
/-- rooms only grow -/
def vLe (V V' : Nat → Nat) : Prop := V' 1 = V 1 ∧ V 20 ≤ V' 20 ∧ V 21 ≤ V' 21 ∧ V 40 ≤ V' 40 ∧ V 41 ≤ V' 41
theorem vLe.rf {V : Nat → Nat} : vLe V V := ⟨rfl, Nat.le_refl _, Nat.le_refl _, Nat.le_refl _, Nat.le_refl _⟩
theorem vLe_U {V : Nat → Nat} {i bs cs be ce br : Nat} (hi : i < 2) (h1 : V (20 + i) ≤ cs) (h2 : V (40 + i) ≤ ce) : vLe V (vU V i bs cs be ce br (V 1)) := by
  have wo : ∀ k, 2 ≤ k → k ≠ 10 + i → k ≠ 20 + i → k ≠ 30 + i → k ≠ 40 + i → vU V i bs cs be ce br (V 1) k = V k := fun k k1 k2 k3 k4 k5 => (if_neg (by omega)).trans ((if_neg (by omega)).trans ((if_neg k2).trans ((if_neg k3).trans ((if_neg k4).trans (if_neg k5)))))
  have w1 : vU V i bs cs be ce br (V 1) 1 = V 1 := (if_neg (by omega)).trans (if_pos rfl)
  have w20 : vU V i bs cs be ce br (V 1) (20 + i) = cs := (if_neg (by omega)).trans ((if_neg (by omega)).trans ((if_neg (by omega)).trans (if_pos rfl)))
  have w40 : vU V i bs cs be ce br (V 1) (40 + i) = ce := (if_neg (by omega)).trans ((if_neg (by omega)).trans ((if_neg (by omega)).trans ((if_neg (by omega)).trans ((if_neg (by omega)).trans (if_pos rfl)))))
  have o20 := wo (20 + (1 - i)) (by omega) (by omega) (by omega) (by omega) (by omega)
  have o40 := wo (40 + (1 - i)) (by omega) (by omega) (by omega) (by omega) (by omega)
  clear wo
  rw [← w20] at h1
  rw [← w40] at h2
  generalize vU V i bs cs be ce br (V 1) = W at *
  match i, hi with
  | 0, _ => exact ⟨w1, h1, Nat.le_of_eq o20.symm, h2, Nat.le_of_eq o40.symm⟩
  | 1, _ => exact ⟨w1, Nat.le_of_eq o20.symm, h1, Nat.le_of_eq o40.symm, h2⟩
