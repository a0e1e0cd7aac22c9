/-! The model's calls: make. -/
set_option maxRecDepth 100000 in
set_option maxHeartbeats 4000000 in
theorem c_Mo_sameSession {l : Launch} {D : va_G} {H0 : Heap} {X0 : xH} {A : Nat → Nat} {s : MS} (hA : mInj A) {a b : Nat} {x y : Ss} (ha : a < 32) (hb : b < 32) (hx : sSlot s a x) (hy : sSlot s b y) (hxl : x.2.2.2.2.length ≤ 104) (hyl : y.2.2.2.2.length ≤ 104) (hxb : isbs x.2.2.2.2) (hyb : isbs y.2.2.2.2) : xMet l D H0 y_Mo_sameSession b_Mo_sameSession 5 (some .boolean) [] 0 0 0 [.ref (A 0), .int (nI a), .int (nI b)] (mX D X0 A s) (fun o X' => o = .inl (some (.int (if x = y then 1 else 0))) ∧ X' = mX D X0 A s) := by
  refine ⟨[some (.ref (A 0)), some (.int (nI a)), some (.int (nI b)), none, none], rfl, Nat.le_of_ble_eq_true rfl, fun E hD hH hl _ C => ?_⟩
  subst hD
  subst hH
  subst hl
  have t138 : ∀ (c : Int32) (k : Option Value), (c = 0 ∨ c = 1) → (c = 1 ↔ x = y) → xG E (mX E.D X0 A s) 0 0 138 [some (.ref (A 0)), some (.int (nI a)), some (.int (nI b)), some (.int c), k] [] := by
    intro c k hc hc2
    refine xr_iload_n C d_Mo_sameSession_138 139 rfl rfl ?_
    refine xr_zret C d_Mo_sameSession_139 (by rcases hc with e | e <;> subst e <;> rfl) (by omega) (by omega) ⟨?_, rfl⟩
    rcases hc with e | e
    · rw [if_neg (fun q => by have := hc2.mpr q; rw [e] at this; exact absurd this (by decide)), e]
    · rw [if_pos (hc2.mp e), e]
  have no79 : x ≠ y → xG E (mX E.D X0 A s) 0 0 79 [some (.ref (A 0)), some (.int (nI a)), some (.int (nI b)), none, none] [] := by
    intro hne
    refine xr_iconst (v := 0) C d_Mo_sameSession_79 80 rfl (by decide) ?_
    refine xr_istore_n C d_Mo_sameSession_80 81 rfl rfl rfl ?_
    refine xr_iconst (v := 0) C d_Mo_sameSession_81 82 rfl (by decide) ?_
    refine xr_istore C d_Mo_sameSession_82 84 rfl rfl rfl ?_
    refine xr_iload C d_Mo_sameSession_84 86 rfl rfl ?_
    refine xr_aload_n C d_Mo_sameSession_86 87 rfl rfl ?_
    refine xr_get C K_Mo 6 d_Mo_sameSession_87 90 rfl q_946 (Or.inl rfl) rfl (mX_o hA) rfl ?_
    refine xr_iload_n C d_Mo_sameSession_90 91 rfl rfl ?_
    refine xr_iald (j := a) C d_Mo_sameSession_91 92 rfl (mX_6 hA) rfl (by omega) (by omega) ?_
    refine xr_toi (show _ = nI x.2.2.2.2.length from hx.2.2.2.2.1) ?_
    refine xr_icmp_ge C d_Mo_sameSession_92 95 138 rfl (by decide) (fun _ => t138 0 _ (Or.inl rfl) ⟨fun h => absurd h (by decide), fun h => absurd h hne⟩) (fun _ => ?_)
    refine xr_iload_n C d_Mo_sameSession_95 96 rfl rfl ?_
    refine xr_if_eq C d_Mo_sameSession_96 99 138 rfl (by decide) (fun _ => t138 0 _ (Or.inl rfl) ⟨fun h => absurd h (by decide), fun h => absurd h hne⟩) (fun h => absurd rfl h)
  refine xr_aload_n C d_Mo_sameSession_0 1 rfl rfl ?_
  refine xr_get C K_Mo 2 d_Mo_sameSession_1 4 rfl q_942 (Or.inl rfl) rfl (mX_o hA) rfl ?_
  refine xr_iload_n C d_Mo_sameSession_4 5 rfl rfl ?_
  refine xr_iald (j := a) C d_Mo_sameSession_5 6 rfl (mX_2 hA) rfl (by omega) (by omega) ?_
  refine xr_toi (show _ = x.1 from hx.1) ?_
  refine xr_aload_n C d_Mo_sameSession_6 7 rfl rfl ?_
  refine xr_get C K_Mo 2 d_Mo_sameSession_7 10 rfl q_942 (Or.inl rfl) rfl (mX_o hA) rfl ?_
  refine xr_iload_n C d_Mo_sameSession_10 11 rfl rfl ?_
  refine xr_iald (j := b) C d_Mo_sameSession_11 12 rfl (mX_2 hA) rfl (by omega) (by omega) ?_
  refine xr_toi (show _ = y.1 from hy.1) ?_
  refine xr_icmp_ne C d_Mo_sameSession_12 15 79 rfl (by decide) (fun h => no79 (fun e => h (by rw [e]))) (fun c0 => ?_)
  refine xr_aload_n C d_Mo_sameSession_15 16 rfl rfl ?_
  refine xr_get C K_Mo 3 d_Mo_sameSession_16 19 rfl q_943 (Or.inl rfl) rfl (mX_o hA) rfl ?_
  refine xr_iload_n C d_Mo_sameSession_19 20 rfl rfl ?_
  refine xr_iald (j := a) C d_Mo_sameSession_20 21 rfl (mX_3 hA) rfl (by omega) (by omega) ?_
  refine xr_toi (show _ = x.2.1 from hx.2.1) ?_
  refine xr_aload_n C d_Mo_sameSession_21 22 rfl rfl ?_
  refine xr_get C K_Mo 3 d_Mo_sameSession_22 25 rfl q_943 (Or.inl rfl) rfl (mX_o hA) rfl ?_
  refine xr_iload_n C d_Mo_sameSession_25 26 rfl rfl ?_
  refine xr_iald (j := b) C d_Mo_sameSession_26 27 rfl (mX_3 hA) rfl (by omega) (by omega) ?_
  refine xr_toi (show _ = y.2.1 from hy.2.1) ?_
  refine xr_icmp_ne C d_Mo_sameSession_27 30 79 rfl (by decide) (fun h => no79 (fun e => h (by rw [e]))) (fun c1 => ?_)
  refine xr_aload_n C d_Mo_sameSession_30 31 rfl rfl ?_
  refine xr_get C K_Mo 4 d_Mo_sameSession_31 34 rfl q_944 (Or.inl rfl) rfl (mX_o hA) rfl ?_
  refine xr_iload_n C d_Mo_sameSession_34 35 rfl rfl ?_
  refine xr_iald (j := a) C d_Mo_sameSession_35 36 rfl (mX_4 hA) rfl (by omega) (by omega) ?_
  refine xr_toi (show _ = x.2.2.1 from hx.2.2.1) ?_
  refine xr_aload_n C d_Mo_sameSession_36 37 rfl rfl ?_
  refine xr_get C K_Mo 4 d_Mo_sameSession_37 40 rfl q_944 (Or.inl rfl) rfl (mX_o hA) rfl ?_
  refine xr_iload_n C d_Mo_sameSession_40 41 rfl rfl ?_
  refine xr_iald (j := b) C d_Mo_sameSession_41 42 rfl (mX_4 hA) rfl (by omega) (by omega) ?_
  refine xr_toi (show _ = y.2.2.1 from hy.2.2.1) ?_
  refine xr_icmp_ne C d_Mo_sameSession_42 45 79 rfl (by decide) (fun h => no79 (fun e => h (by rw [e]))) (fun c2 => ?_)
  refine xr_aload_n C d_Mo_sameSession_45 46 rfl rfl ?_
  refine xr_get C K_Mo 5 d_Mo_sameSession_46 49 rfl q_945 (Or.inl rfl) rfl (mX_o hA) rfl ?_
  refine xr_iload_n C d_Mo_sameSession_49 50 rfl rfl ?_
  refine xr_iald (j := a) C d_Mo_sameSession_50 51 rfl (mX_5 hA) rfl (by omega) (by omega) ?_
  refine xr_toi (show _ = x.2.2.2.1 from hx.2.2.2.1) ?_
  refine xr_aload_n C d_Mo_sameSession_51 52 rfl rfl ?_
  refine xr_get C K_Mo 5 d_Mo_sameSession_52 55 rfl q_945 (Or.inl rfl) rfl (mX_o hA) rfl ?_
  refine xr_iload_n C d_Mo_sameSession_55 56 rfl rfl ?_
  refine xr_iald (j := b) C d_Mo_sameSession_56 57 rfl (mX_5 hA) rfl (by omega) (by omega) ?_
  refine xr_toi (show _ = y.2.2.2.1 from hy.2.2.2.1) ?_
  refine xr_icmp_ne C d_Mo_sameSession_57 60 79 rfl (by decide) (fun h => no79 (fun e => h (by rw [e]))) (fun c3 => ?_)
  refine xr_aload_n C d_Mo_sameSession_60 61 rfl rfl ?_
  refine xr_get C K_Mo 6 d_Mo_sameSession_61 64 rfl q_946 (Or.inl rfl) rfl (mX_o hA) rfl ?_
  refine xr_iload_n C d_Mo_sameSession_64 65 rfl rfl ?_
  refine xr_iald (j := a) C d_Mo_sameSession_65 66 rfl (mX_6 hA) rfl (by omega) (by omega) ?_
  refine xr_toi (show _ = nI x.2.2.2.2.length from hx.2.2.2.2.1) ?_
  refine xr_aload_n C d_Mo_sameSession_66 67 rfl rfl ?_
  refine xr_get C K_Mo 6 d_Mo_sameSession_67 70 rfl q_946 (Or.inl rfl) rfl (mX_o hA) rfl ?_
  refine xr_iload_n C d_Mo_sameSession_70 71 rfl rfl ?_
  refine xr_iald (j := b) C d_Mo_sameSession_71 72 rfl (mX_6 hA) rfl (by omega) (by omega) ?_
  refine xr_toi (show _ = nI y.2.2.2.2.length from hy.2.2.2.2.1) ?_
  refine xr_icmp_ne C d_Mo_sameSession_72 75 79 rfl (by decide) (fun h => no79 (fun e => h (by rw [e]))) (fun c4 => ?_)
  have hll : x.2.2.2.2.length = y.2.2.2.2.length := (nI_eq (by omega) (by omega)).mp c4
  have hxy : (x = y) ↔ x.2.2.2.2 = y.2.2.2.2 := ⟨fun e => by rw [e], fun e => Prod.ext c0 (Prod.ext c1 (Prod.ext c2 (Prod.ext c3 e)))⟩
  have loop : ∀ (r k : Nat) (c : Int32), k + r = x.2.2.2.2.length → (c = 0 ∨ c = 1) → (c = 1 ↔ ∀ q, q < k → x.2.2.2.2.getD q 0 = y.2.2.2.2.getD q 0) → xG E (mX E.D X0 A s) 0 0 84 [some (.ref (A 0)), some (.int (nI a)), some (.int (nI b)), some (.int c), some (.int (nI k))] [] := by
    intro r
    induction r with
    | zero =>
      intro k c hk hc hc2
      refine xr_iload C d_Mo_sameSession_84 86 rfl rfl ?_
      refine xr_aload_n C d_Mo_sameSession_86 87 rfl rfl ?_
      refine xr_get C K_Mo 6 d_Mo_sameSession_87 90 rfl q_946 (Or.inl rfl) rfl (mX_o hA) rfl ?_
      refine xr_iload_n C d_Mo_sameSession_90 91 rfl rfl ?_
      refine xr_iald (j := a) C d_Mo_sameSession_91 92 rfl (mX_6 hA) rfl (by omega) (by omega) ?_
      refine xr_toi (show _ = nI x.2.2.2.2.length from hx.2.2.2.2.1) ?_
      refine xr_icmp_ge C d_Mo_sameSession_92 95 138 rfl (by decide) (fun _ => t138 c _ hc (hc2.trans (Iff.trans ⟨fun h => ext0 hll (fun q hq => h q (by omega)), fun h q _ => by rw [h]⟩ hxy.symm))) (fun h => absurd (nI_le (show x.2.2.2.2.length ≤ k by omega) (by omega)) h)
    | succ r ih =>
      intro k c hk hc hc2
      have k1 : k < x.2.2.2.2.length := by omega
      refine xr_iload C d_Mo_sameSession_84 86 rfl rfl ?_
      refine xr_aload_n C d_Mo_sameSession_86 87 rfl rfl ?_
      refine xr_get C K_Mo 6 d_Mo_sameSession_87 90 rfl q_946 (Or.inl rfl) rfl (mX_o hA) rfl ?_
      refine xr_iload_n C d_Mo_sameSession_90 91 rfl rfl ?_
      refine xr_iald (j := a) C d_Mo_sameSession_91 92 rfl (mX_6 hA) rfl (by omega) (by omega) ?_
      refine xr_toi (show _ = nI x.2.2.2.2.length from hx.2.2.2.2.1) ?_
      refine xr_icmp_ge C d_Mo_sameSession_92 95 138 rfl (by decide) (fun h => absurd h (nI_ge k1 (by omega))) (fun _ => ?_)
      refine xr_iload_n C d_Mo_sameSession_95 96 rfl rfl ?_
      refine xr_if_eq C d_Mo_sameSession_96 99 138 rfl (by decide) (fun h96 => ?_) (fun h96 => ?_)
      · refine t138 c _ hc ⟨fun h => absurd (h96.symm.trans h) (by decide), fun h => ?_⟩
        exact hc2.mpr (fun q _ => by rw [h])
      have hall := hc2.mp (hc.resolve_left h96)
      have t131 : ∀ d : Int32, (d = 0 ∨ d = 1) → (d = 1 ↔ x.2.2.2.2.getD k 0 = y.2.2.2.2.getD k 0) → xG E (mX E.D X0 A s) 0 0 131 [some (.ref (A 0)), some (.int (nI a)), some (.int (nI b)), some (.int c), some (.int (nI k))] [.int d] := by
        intro d hd hd2
        refine xr_istore_n C d_Mo_sameSession_131 132 rfl rfl rfl ?_
        refine xr_iinc (v := 1) C d_Mo_sameSession_132 135 rfl rfl rfl rfl (by decide) ?_
        refine xr_goto C d_Mo_sameSession_135 84 (by decide) ?_
        refine xG.eqL (show _ = [some (Value.ref (A 0)), some (Value.int (nI a)), some (Value.int (nI b)), some (Value.int d), some (Value.int (nI (k + 1)))] by rw [← nI_one k]; rfl) ?_
        refine ih (k + 1) d (by omega) hd (hd2.trans ⟨fun h q hq => ?_, fun h => h k (by omega)⟩)
        by_cases e : q = k
        · rw [e]
          exact h
        · exact hall q (by omega)
      refine xr_aload_n C d_Mo_sameSession_99 100 rfl rfl ?_
      refine xr_get C K_Mo 7 d_Mo_sameSession_100 103 rfl q_947 (Or.inl rfl) rfl (mX_o hA) rfl ?_
      refine xr_bipush (v := 104) C d_Mo_sameSession_103 105 rfl (by decide) ?_
      refine xr_iload_n C d_Mo_sameSession_105 106 rfl rfl ?_
      refine xr_imul C d_Mo_sameSession_106 107 rfl ?_
      refine xr_toi (show _ = nI (104 * a) from pk_mul 104 a) ?_
      refine xr_iload C d_Mo_sameSession_107 109 rfl rfl ?_
      refine xr_iadd C d_Mo_sameSession_109 110 rfl ?_
      refine xr_toi (show _ = nI ((104 * a) + k) from nI_add (104 * a) k) ?_
      refine xr_iald (j := ((104 * a) + k)) C d_Mo_sameSession_110 111 rfl (mX_7 hA) rfl (by omega) (by omega) ?_
      refine xr_toi (show _ = u8 (x.2.2.2.2.getD k 0) from hx.2.2.2.2.2 k k1) ?_
      refine xr_aload_n C d_Mo_sameSession_111 112 rfl rfl ?_
      refine xr_get C K_Mo 7 d_Mo_sameSession_112 115 rfl q_947 (Or.inl rfl) rfl (mX_o hA) rfl ?_
      refine xr_bipush (v := 104) C d_Mo_sameSession_115 117 rfl (by decide) ?_
      refine xr_iload_n C d_Mo_sameSession_117 118 rfl rfl ?_
      refine xr_imul C d_Mo_sameSession_118 119 rfl ?_
      refine xr_toi (show _ = nI (104 * b) from pk_mul 104 b) ?_
      refine xr_iload C d_Mo_sameSession_119 121 rfl rfl ?_
      refine xr_iadd C d_Mo_sameSession_121 122 rfl ?_
      refine xr_toi (show _ = nI ((104 * b) + k) from nI_add (104 * b) k) ?_
      refine xr_iald (j := ((104 * b) + k)) C d_Mo_sameSession_122 123 rfl (mX_7 hA) rfl (by omega) (by omega) ?_
      refine xr_toi (show _ = u8 (y.2.2.2.2.getD k 0) from hy.2.2.2.2.2 k (by omega)) ?_
      refine xr_icmp_ne C d_Mo_sameSession_123 126 130 rfl (by decide) (fun h123 => ?_) (fun h123 => ?_)
      · refine xr_iconst (v := 0) C d_Mo_sameSession_130 131 rfl (by decide) ?_
        exact t131 0 (Or.inl rfl) ⟨fun h => absurd h (by decide), fun h => absurd (by rw [h]) h123⟩
      · refine xr_iconst (v := 1) C d_Mo_sameSession_126 127 rfl (by decide) ?_
        refine xr_goto C d_Mo_sameSession_127 131 (by decide) ?_
        exact t131 1 (Or.inr rfl) ⟨fun _ => u8_inj (hxb k k1) (hyb k (by omega)) h123, fun _ => rfl⟩
  refine xr_iconst (v := 1) C d_Mo_sameSession_75 76 rfl (by decide) ?_
  refine xr_goto C d_Mo_sameSession_76 80 (by decide) ?_
  refine xr_istore_n C d_Mo_sameSession_80 81 rfl rfl rfl ?_
  refine xr_iconst (v := 0) C d_Mo_sameSession_81 82 rfl (by decide) ?_
  refine xr_istore C d_Mo_sameSession_82 84 rfl rfl rfl ?_
  exact loop x.2.2.2.2.length 0 1 (by omega) (Or.inr rfl) ⟨fun _ q hq => absurd hq (Nat.not_lt_zero _), fun _ => rfl⟩
set_option maxRecDepth 100000 in
set_option maxHeartbeats 4000000 in
theorem c_Mo_sameKey {l : Launch} {D : va_G} {H0 : Heap} {X0 : xH} {A : Nat → Nat} {s : MS} (hA : mInj A) {a b : Nat} {x y : Es} (ha : a < 256) (hb : b < 256) (hx : eSlot s a x) (hy : eSlot s b y) (hx1 : x.1.length ≤ 32) (hx2 : x.2.length ≤ 100) (hy1 : y.1.length ≤ 32) (hy2 : y.2.length ≤ 100) (hxb : isbs x.1 ∧ isbs x.2) (hyb : isbs y.1 ∧ isbs y.2) : xMet l D H0 y_Mo_sameKey b_Mo_sameKey 5 (some .boolean) [] 0 0 0 [.ref (A 0), .int (nI a), .int (nI b)] (mX D X0 A s) (fun o X' => o = .inl (some (.int (if x = y then 1 else 0))) ∧ X' = mX D X0 A s) := by
  refine ⟨[some (.ref (A 0)), some (.int (nI a)), some (.int (nI b)), none, none], rfl, Nat.le_of_ble_eq_true rfl, fun E hD hH hl _ C => ?_⟩
  subst hD
  subst hH
  subst hl
  have loop2 : ∀ (r k : Nat) (c : Int32), k + r = 13 → (c = 0 ∨ c = 1) → (c = 1 ↔ (x.1 = y.1 ∧ x.2.length = y.2.length) ∧ ∀ q, q < k → vW x.2 q = vW y.2 q) → xG E (mX E.D X0 A s) 0 0 90 [some (.ref (A 0)), some (.int (nI a)), some (.int (nI b)), some (.int c), some (.int (nI k))] [] := by
    intro r
    induction r with
    | zero =>
      intro k c hk hc hc2
      have ek : k = 13 := by omega
      subst ek
      refine xr_iload C d_Mo_sameKey_90 92 rfl rfl ?_
      refine xr_bipush (v := 13) C d_Mo_sameKey_92 94 rfl (by decide) ?_
      refine xr_toi (show _ = nI 13 from rfl) ?_
      refine xr_icmp_ge C d_Mo_sameKey_94 97 141 rfl (by decide) (fun _ => ?_) (fun h => absurd (nI_le (Nat.le_refl _) (by omega)) h)
      refine xr_iload_n C d_Mo_sameKey_141 142 rfl rfl ?_
      have hfin : c = 1 ↔ x = y := hc2.trans ⟨fun h => Prod.ext h.1.1 ((vW_eq hxb.2 hyb.2 h.1.2 (by omega)).mp h.2), fun h => by rw [h]; exact ⟨⟨rfl, rfl⟩, fun _ _ => rfl⟩⟩
      refine xr_zret C d_Mo_sameKey_142 (by rcases hc with e | e <;> subst e <;> rfl) (by omega) (by omega) ⟨?_, rfl⟩
      rcases hc with e | e
      · rw [if_neg (fun q => by have := hfin.mpr q; rw [e] at this; exact absurd this (by decide)), e]
      · rw [if_pos (hfin.mp e), e]
    | succ r ih =>
      intro k c hk hc hc2
      have t134 : ∀ d : Int32, (d = 0 ∨ d = 1) → (d = 1 ↔ (x.1 = y.1 ∧ x.2.length = y.2.length) ∧ ∀ q, q < k + 1 → vW x.2 q = vW y.2 q) → xG E (mX E.D X0 A s) 0 0 134 [some (.ref (A 0)), some (.int (nI a)), some (.int (nI b)), some (.int c), some (.int (nI k))] [.int d] := by
        intro d hd hd2
        refine xr_istore_n C d_Mo_sameKey_134 135 rfl rfl rfl ?_
        refine xr_iinc (v := 1) C d_Mo_sameKey_135 138 rfl rfl rfl rfl (by decide) ?_
        refine xr_goto C d_Mo_sameKey_138 90 (by decide) ?_
        refine xG.eqL (show _ = [some (Value.ref (A 0)), some (Value.int (nI a)), some (Value.int (nI b)), some (Value.int d), some (Value.int (nI (k + 1)))] by rw [← nI_one k]; rfl) ?_
        exact ih (k + 1) d (by omega) hd hd2
      refine xr_iload C d_Mo_sameKey_90 92 rfl rfl ?_
      refine xr_bipush (v := 13) C d_Mo_sameKey_92 94 rfl (by decide) ?_
      refine xr_toi (show _ = nI 13 from rfl) ?_
      refine xr_icmp_ge C d_Mo_sameKey_94 97 141 rfl (by decide) (fun h => absurd h (nI_ge (show k < 13 by omega) (by omega))) (fun _ => ?_)
      refine xr_iload_n C d_Mo_sameKey_97 98 rfl rfl ?_
      refine xr_if_eq C d_Mo_sameKey_98 101 133 rfl (by decide) (fun h98 => ?_) (fun h98 => ?_)
      · refine xr_iconst (v := 0) C d_Mo_sameKey_133 134 rfl (by decide) ?_
        refine t134 0 (Or.inl rfl) ⟨fun h => absurd h (by decide), fun h => ?_⟩
        have := hc2.mpr ⟨h.1, fun q hq => h.2 q (by omega)⟩
        rw [h98] at this
        exact absurd this (by decide)
      have hall := hc2.mp (hc.resolve_left h98)
      refine xr_aload_n C d_Mo_sameKey_101 102 rfl rfl ?_
      refine xr_get C K_Mo 12 d_Mo_sameKey_102 105 rfl q_952 (Or.inl rfl) rfl (mX_o hA) rfl ?_
      refine xr_bipush (v := 13) C d_Mo_sameKey_105 107 rfl (by decide) ?_
      refine xr_iload_n C d_Mo_sameKey_107 108 rfl rfl ?_
      refine xr_imul C d_Mo_sameKey_108 109 rfl ?_
      refine xr_toi (show _ = nI (13 * a) from pk_mul 13 a) ?_
      refine xr_iload C d_Mo_sameKey_109 111 rfl rfl ?_
      refine xr_iadd C d_Mo_sameKey_111 112 rfl ?_
      refine xr_toi (show _ = nI ((13 * a) + k) from nI_add (13 * a) k) ?_
      refine xr_lald (j := ((13 * a) + k)) C d_Mo_sameKey_112 113 rfl (mX_12 hA) rfl (by omega) (by omega) ?_
      refine xr_tol (show _ = vW x.2 k from hx.2.2 k (by omega)) ?_
      refine xr_aload_n C d_Mo_sameKey_113 114 rfl rfl ?_
      refine xr_get C K_Mo 12 d_Mo_sameKey_114 117 rfl q_952 (Or.inl rfl) rfl (mX_o hA) rfl ?_
      refine xr_bipush (v := 13) C d_Mo_sameKey_117 119 rfl (by decide) ?_
      refine xr_iload_n C d_Mo_sameKey_119 120 rfl rfl ?_
      refine xr_imul C d_Mo_sameKey_120 121 rfl ?_
      refine xr_toi (show _ = nI (13 * b) from pk_mul 13 b) ?_
      refine xr_iload C d_Mo_sameKey_121 123 rfl rfl ?_
      refine xr_iadd C d_Mo_sameKey_123 124 rfl ?_
      refine xr_toi (show _ = nI ((13 * b) + k) from nI_add (13 * b) k) ?_
      refine xr_lald (j := ((13 * b) + k)) C d_Mo_sameKey_124 125 rfl (mX_12 hA) rfl (by omega) (by omega) ?_
      refine xr_tol (show _ = vW y.2 k from hy.2.2 k (by omega)) ?_
      refine xr_lcmp C d_Mo_sameKey_125 126 rfl ?_
      refine xr_if_ne C d_Mo_sameKey_126 129 133 rfl (by decide) (fun h126 => ?_) (fun h126 => ?_)
      · refine xr_iconst (v := 0) C d_Mo_sameKey_133 134 rfl (by decide) ?_
        exact t134 0 (Or.inl rfl) ⟨fun h => absurd h (by decide), fun h => absurd ((lg_cmp_eq _ _).mpr (h.2 k (by omega))) h126⟩
      · refine xr_iconst (v := 1) C d_Mo_sameKey_129 130 rfl (by decide) ?_
        refine xr_goto C d_Mo_sameKey_130 134 (by decide) ?_
        refine t134 1 (Or.inr rfl) ⟨fun _ => ⟨hall.1, fun q hq => ?_⟩, fun _ => rfl⟩
        by_cases e : q = k
        · rw [e]
          exact (lg_cmp_eq _ _).mp h126
        · exact hall.2 q (by omega)
  have loop1 : ∀ (r k : Nat) (c : Int32), k + r = 4 → (c = 0 ∨ c = 1) → (c = 1 ↔ (x.1.length = y.1.length ∧ x.2.length = y.2.length) ∧ ∀ q, q < k → kW x.1 q = kW y.1 q) → xG E (mX E.D X0 A s) 0 0 39 [some (.ref (A 0)), some (.int (nI a)), some (.int (nI b)), some (.int c), some (.int (nI k))] [] := by
    intro r
    induction r with
    | zero =>
      intro k c hk hc hc2
      have ek : k = 4 := by omega
      subst ek
      refine xr_iload C d_Mo_sameKey_39 41 rfl rfl ?_
      refine xr_iconst (v := 4) C d_Mo_sameKey_41 42 rfl (by decide) ?_
      refine xr_toi (show _ = nI 4 from rfl) ?_
      refine xr_icmp_ge C d_Mo_sameKey_42 45 87 rfl (by decide) (fun _ => ?_) (fun h => absurd (nI_le (Nat.le_refl _) (by omega)) h)
      refine xr_iconst (v := 0) C d_Mo_sameKey_87 88 rfl (by decide) ?_
      refine xr_istore C d_Mo_sameKey_88 90 rfl rfl rfl ?_
      exact loop2 13 0 c (by omega) hc (hc2.trans ⟨fun h => ⟨⟨(kW_eq hxb.1 hyb.1 h.1.1 hx1).mp h.2, h.1.2⟩, fun q hq => absurd hq (Nat.not_lt_zero _)⟩, fun h => ⟨⟨by rw [h.1.1], h.1.2⟩, fun q _ => by rw [h.1.1]⟩⟩)
    | succ r ih =>
      intro k c hk hc hc2
      have t80 : ∀ d : Int32, (d = 0 ∨ d = 1) → (d = 1 ↔ (x.1.length = y.1.length ∧ x.2.length = y.2.length) ∧ ∀ q, q < k + 1 → kW x.1 q = kW y.1 q) → xG E (mX E.D X0 A s) 0 0 80 [some (.ref (A 0)), some (.int (nI a)), some (.int (nI b)), some (.int c), some (.int (nI k))] [.int d] := by
        intro d hd hd2
        refine xr_istore_n C d_Mo_sameKey_80 81 rfl rfl rfl ?_
        refine xr_iinc (v := 1) C d_Mo_sameKey_81 84 rfl rfl rfl rfl (by decide) ?_
        refine xr_goto C d_Mo_sameKey_84 39 (by decide) ?_
        refine xG.eqL (show _ = [some (Value.ref (A 0)), some (Value.int (nI a)), some (Value.int (nI b)), some (Value.int d), some (Value.int (nI (k + 1)))] by rw [← nI_one k]; rfl) ?_
        exact ih (k + 1) d (by omega) hd hd2
      refine xr_iload C d_Mo_sameKey_39 41 rfl rfl ?_
      refine xr_iconst (v := 4) C d_Mo_sameKey_41 42 rfl (by decide) ?_
      refine xr_toi (show _ = nI 4 from rfl) ?_
      refine xr_icmp_ge C d_Mo_sameKey_42 45 87 rfl (by decide) (fun h => absurd h (nI_ge (show k < 4 by omega) (by omega))) (fun _ => ?_)
      refine xr_iload_n C d_Mo_sameKey_45 46 rfl rfl ?_
      refine xr_if_eq C d_Mo_sameKey_46 49 79 rfl (by decide) (fun h98 => ?_) (fun h98 => ?_)
      · refine xr_iconst (v := 0) C d_Mo_sameKey_79 80 rfl (by decide) ?_
        refine t80 0 (Or.inl rfl) ⟨fun h => absurd h (by decide), fun h => ?_⟩
        have := hc2.mpr ⟨h.1, fun q hq => h.2 q (by omega)⟩
        rw [h98] at this
        exact absurd this (by decide)
      have hall := hc2.mp (hc.resolve_left h98)
      refine xr_aload_n C d_Mo_sameKey_49 50 rfl rfl ?_
      refine xr_get C K_Mo 10 d_Mo_sameKey_50 53 rfl q_950 (Or.inl rfl) rfl (mX_o hA) rfl ?_
      refine xr_iconst (v := 4) C d_Mo_sameKey_53 54 rfl (by decide) ?_
      refine xr_iload_n C d_Mo_sameKey_54 55 rfl rfl ?_
      refine xr_imul C d_Mo_sameKey_55 56 rfl ?_
      refine xr_toi (show _ = nI (4 * a) from pk_mul 4 a) ?_
      refine xr_iload C d_Mo_sameKey_56 58 rfl rfl ?_
      refine xr_iadd C d_Mo_sameKey_58 59 rfl ?_
      refine xr_toi (show _ = nI ((4 * a) + k) from nI_add (4 * a) k) ?_
      refine xr_lald (j := ((4 * a) + k)) C d_Mo_sameKey_59 60 rfl (mX_10 hA) rfl (by omega) (by omega) ?_
      refine xr_tol (show _ = kW x.1 k from hx.1.2 k (by omega)) ?_
      refine xr_aload_n C d_Mo_sameKey_60 61 rfl rfl ?_
      refine xr_get C K_Mo 10 d_Mo_sameKey_61 64 rfl q_950 (Or.inl rfl) rfl (mX_o hA) rfl ?_
      refine xr_iconst (v := 4) C d_Mo_sameKey_64 65 rfl (by decide) ?_
      refine xr_iload_n C d_Mo_sameKey_65 66 rfl rfl ?_
      refine xr_imul C d_Mo_sameKey_66 67 rfl ?_
      refine xr_toi (show _ = nI (4 * b) from pk_mul 4 b) ?_
      refine xr_iload C d_Mo_sameKey_67 69 rfl rfl ?_
      refine xr_iadd C d_Mo_sameKey_69 70 rfl ?_
      refine xr_toi (show _ = nI ((4 * b) + k) from nI_add (4 * b) k) ?_
      refine xr_lald (j := ((4 * b) + k)) C d_Mo_sameKey_70 71 rfl (mX_10 hA) rfl (by omega) (by omega) ?_
      refine xr_tol (show _ = kW y.1 k from hy.1.2 k (by omega)) ?_
      refine xr_lcmp C d_Mo_sameKey_71 72 rfl ?_
      refine xr_if_ne C d_Mo_sameKey_72 75 79 rfl (by decide) (fun h126 => ?_) (fun h126 => ?_)
      · refine xr_iconst (v := 0) C d_Mo_sameKey_79 80 rfl (by decide) ?_
        exact t80 0 (Or.inl rfl) ⟨fun h => absurd h (by decide), fun h => absurd ((lg_cmp_eq _ _).mpr (h.2 k (by omega))) h126⟩
      · refine xr_iconst (v := 1) C d_Mo_sameKey_75 76 rfl (by decide) ?_
        refine xr_goto C d_Mo_sameKey_76 80 (by decide) ?_
        refine t80 1 (Or.inr rfl) ⟨fun _ => ⟨hall.1, fun q hq => ?_⟩, fun _ => rfl⟩
        by_cases e : q = k
        · rw [e]
          exact (lg_cmp_eq _ _).mp h126
        · exact hall.2 q (by omega)
  have t35 : ∀ c : Int32, (c = 0 ∨ c = 1) → (c = 1 ↔ x.1.length = y.1.length ∧ x.2.length = y.2.length) → xG E (mX E.D X0 A s) 0 0 35 [some (.ref (A 0)), some (.int (nI a)), some (.int (nI b)), none, none] [.int c] := by
    intro c hc hc2
    refine xr_istore_n C d_Mo_sameKey_35 36 rfl rfl rfl ?_
    refine xr_iconst (v := 0) C d_Mo_sameKey_36 37 rfl (by decide) ?_
    refine xr_istore C d_Mo_sameKey_37 39 rfl rfl rfl ?_
    exact loop1 4 0 c (by omega) hc (hc2.trans ⟨fun h => ⟨h, fun q hq => absurd hq (Nat.not_lt_zero _)⟩, fun h => h.1⟩)
  refine xr_aload_n C d_Mo_sameKey_0 1 rfl rfl ?_
  refine xr_get C K_Mo 9 d_Mo_sameKey_1 4 rfl q_949 (Or.inl rfl) rfl (mX_o hA) rfl ?_
  refine xr_iload_n C d_Mo_sameKey_4 5 rfl rfl ?_
  refine xr_iald (j := a) C d_Mo_sameKey_5 6 rfl (mX_9 hA) rfl (by omega) (by omega) ?_
  refine xr_toi (show _ = nI x.1.length from hx.1.1) ?_
  refine xr_aload_n C d_Mo_sameKey_6 7 rfl rfl ?_
  refine xr_get C K_Mo 9 d_Mo_sameKey_7 10 rfl q_949 (Or.inl rfl) rfl (mX_o hA) rfl ?_
  refine xr_iload_n C d_Mo_sameKey_10 11 rfl rfl ?_
  refine xr_iald (j := b) C d_Mo_sameKey_11 12 rfl (mX_9 hA) rfl (by omega) (by omega) ?_
  refine xr_toi (show _ = nI y.1.length from hy.1.1) ?_
  refine xr_icmp_ne C d_Mo_sameKey_12 15 34 rfl (by decide) (fun h12 => ?_) (fun h12 => ?_)
  · refine xr_iconst (v := 0) C d_Mo_sameKey_34 35 rfl (by decide) ?_
    exact t35 0 (Or.inl rfl) ⟨fun h => absurd h (by decide), fun h => absurd (by rw [h.1]) h12⟩
  refine xr_aload_n C d_Mo_sameKey_15 16 rfl rfl ?_
  refine xr_get C K_Mo 11 d_Mo_sameKey_16 19 rfl q_951 (Or.inl rfl) rfl (mX_o hA) rfl ?_
  refine xr_iload_n C d_Mo_sameKey_19 20 rfl rfl ?_
  refine xr_iald (j := a) C d_Mo_sameKey_20 21 rfl (mX_11 hA) rfl (by omega) (by omega) ?_
  refine xr_toi (show _ = nI x.2.length from hx.2.1) ?_
  refine xr_aload_n C d_Mo_sameKey_21 22 rfl rfl ?_
  refine xr_get C K_Mo 11 d_Mo_sameKey_22 25 rfl q_951 (Or.inl rfl) rfl (mX_o hA) rfl ?_
  refine xr_iload_n C d_Mo_sameKey_25 26 rfl rfl ?_
  refine xr_iald (j := b) C d_Mo_sameKey_26 27 rfl (mX_11 hA) rfl (by omega) (by omega) ?_
  refine xr_toi (show _ = nI y.2.length from hy.2.1) ?_
  refine xr_icmp_ne C d_Mo_sameKey_27 30 34 rfl (by decide) (fun h27 => ?_) (fun h27 => ?_)
  · refine xr_iconst (v := 0) C d_Mo_sameKey_34 35 rfl (by decide) ?_
    exact t35 0 (Or.inl rfl) ⟨fun h => absurd h (by decide), fun h => absurd (by rw [h.2]) h27⟩
  · refine xr_iconst (v := 1) C d_Mo_sameKey_30 31 rfl (by decide) ?_
    refine xr_goto C d_Mo_sameKey_31 35 (by decide) ?_
    exact t35 1 (Or.inr rfl) ⟨fun _ => ⟨(nI_eq (by omega) (by omega)).mp h12, (nI_eq (by omega) (by omega)).mp h27⟩, fun _ => rfl⟩
