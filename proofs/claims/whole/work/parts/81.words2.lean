/-! the word of the text, found on both sides -/
theorem w_out {n p e : Nat} {b : Nat → Nat} {σ : z_M} (h : TC n b σ) (hpe : p < e) (hen : e ≤ n) (hl : ∀ x, p ≤ x → x < e → isL (b x) = true) : ∀ r j m, j + r = 28 → 144 - wA j < m → (∃ k, j ≤ k ∧ k < 28 ∧ M1 b p e k ∧ f8_wordOf_L8 m (nI p) (nI e) (nI j) 0 (nI (wA j)) σ = some (nI k, σ)) ∨ ((∀ k, j ≤ k → k < 28 → ¬ M1 b p e k) ∧ f8_wordOf_L8 m (nI p) (nI e) (nI j) 0 (nI (wA j)) σ = some (44, σ))
  | 0, j, m, h1, h2 => by
    obtain ⟨m, rfl⟩ : ∃ k, m = k + 1 := ⟨m - 1, by omega⟩
    obtain rfl : j = 28 := by omega
    right
    refine ⟨fun k a c => absurd a (by omega), ?_⟩
    have e28 : wA 28 = 144 := by decide
    unfold f8_wordOf_L8
    rw [e28, e_length, q_bnd, if_neg (nI_nlt (by omega) (by omega))]
  | r + 1, j, m, h1, h2 => by
    obtain ⟨a1, a2, a3, a4⟩ := v_wA j (by omega)
    have hw := w_in h hpe hen hl (j := j) (by omega) (wN j) 0 m (by omega) (by omega)
    have hw : f8_wordOf_L8 m (nI p) (nI e) (nI j) 0 (nI (wA j)) σ = _ := hw
    rw [hw]
    by_cases q : gd b c1 p e (wA j) (wN j) = true ∧ p + wN j = e
    · rw [if_pos q]
      exact .inl ⟨j, Nat.le_refl _, by omega, q, rfl⟩
    · rw [if_neg q]
      rcases w_out h hpe hen hl r (j + 1) (m - (wN j + 1)) (by omega) (by omega) with ⟨k, k1, k2, k3, k4⟩ | ⟨k1, k2⟩
      · exact .inl ⟨k, by omega, k2, k3, k4⟩
      · refine .inr ⟨fun k a c => ?_, k2⟩
        by_cases ek : k = j
        · rw [ek]; exact q
        · exact k1 k (by omega) c
/-- the reference: on to the next word -/
theorem w_skip {p e j k : Nat} {τ : z_M} (hW : ∀ k, k < 145 → τ 8 k = m_words k) (hj : j < 28) (K : Int32 → Int32 → Int32 → Int32 → z_M → Option (Int32 × z_M)) : ∀ r i m, i + r = wM j → r < m → f12_wordAt_L94 K m (nI p) (nI e) (nI k) (nI (wB j + 1 + i)) τ = K (nI p) (nI e) (nI k) (nI (wB (j + 1))) τ
  | 0, i, m, h1, h2 => by
    obtain ⟨m, rfl⟩ : ∃ k, m = k + 1 := ⟨m - 1, by omega⟩
    obtain ⟨a1, a2, a3, a4, a5⟩ := v_wB j hj
    obtain rfl : i = wM j := by omega
    unfold f12_wordAt_L94 f12_wordAt_J115
    rw [k_cin _ a1 (by omega), q_ix (by omega), hW _ a1, (v_c2 _ a1).1, a2, if_pos (show nI 32 = 32 from rfl), a4]
  | r + 1, i, m, h1, h2 => by
    obtain ⟨m, rfl⟩ : ∃ k, m = k + 1 := ⟨m - 1, by omega⟩
    obtain ⟨a1, a2, a3, a4, a5⟩ := v_wB j hj
    have hc := v_c2 (wB j + 1 + i) (by omega)
    have hne : ¬ nI (c2 (wB j + 1 + i)) = 32 := by
      show ¬ nI (c2 (wB j + 1 + i)) = nI 32
      rw [nI_eq (by omega) (by omega)]; exact a3 i (by omega)
    conv => lhs; unfold f12_wordAt_L94
    rw [k_cin _ (by omega) (by omega), q_ix (by omega), hW _ (by omega), hc.1, if_neg hne, nI_1]
    exact w_skip hW hj K r (i + 1) m (by omega) (by omega)
theorem w_ref {n p e j : Nat} {b : Nat → Nat} {τ : z_M} (h : TM n b τ) (hW : ∀ k, k < 145 → τ 8 k = m_words k) (hpe : p < e) (hen : e ≤ n) (hl : ∀ x, p ≤ x → x < e → isL (b x) = true) (hj : j < 28) (K : Int32 → Int32 → Int32 → Int32 → z_M → Option (Int32 × z_M)) : ∀ r i m, i + r = wM j → r < m → p + i ≤ e → gd b c2 p e (wB j + 1) i = true → (M2 b p e j ∧ f12_wordAt_L20 K m (nI p) (nI e) (nI j) (nI (wB j)) (nI i) τ = some (nI j, τ)) ∨ (¬ M2 b p e j ∧ f12_wordAt_L20 K m (nI p) (nI e) (nI j) (nI (wB j)) (nI i) τ = K (nI p) (nI e) (nI j) (nI (wB (j + 1))) τ) := by
  obtain ⟨a1, a2, a3, a4, a5⟩ := v_wB j hj
  have hn := h.1
  have hskip : f12_wordAt_J88 K (nI p) (nI e) (nI j) (nI (wB j)) τ = K (nI p) (nI e) (nI j) (nI (wB (j + 1))) τ := by
    unfold f12_wordAt_J88
    rw [nI_1]
    exact w_skip hW hj K (wM j) 0 z_fu (by omega) (show wM j < 1000 by omega)
  have hJ : ∀ i, i ≤ wM j → ¬ p + i = e ∨ i < wM j → f12_wordAt_J61 K (nI p) (nI e) (nI j) (nI (wB j)) (nI i) τ = K (nI p) (nI e) (nI j) (nI (wB (j + 1))) τ ∨ e < p + i := by
    intro i hi q
    by_cases q0 : e < p + i
    · exact .inr q0
    left
    unfold f12_wordAt_J61
    rw [nI_add, nI_1, nI_add, hskip]
    by_cases q1 : p + i = e
    · have hlt : i < wM j := by omega
      have hc := v_c2 (wB j + 1 + i) (by omega)
      rw [if_pos (by rw [q1]), k_cin _ (by omega) (by omega), q_ix (by omega), hW _ (by omega), hc.1, if_neg]
      show ¬ nI (c2 (wB j + 1 + i)) = nI 32
      rw [nI_eq (by omega) (by omega)]; exact a3 i hlt
    · rw [if_neg (by rw [nI_eq (by omega) (by omega)]; exact q1)]
  intro r
  induction r with
  | zero =>
    intro i m h1 h2 h3 h4
    obtain ⟨m, rfl⟩ : ∃ k, m = k + 1 := ⟨m - 1, by omega⟩
    obtain rfl : i = wM j := by omega
    by_cases q : p + wM j = e
    · left
      refine ⟨⟨h4, q⟩, ?_⟩
      unfold f12_wordAt_L20 f12_wordAt_J61
      rw [nI_add, if_neg (nI_nlt (by omega) (by omega)), nI_1, nI_add, if_pos (by rw [q]), k_cin _ a1 (by omega), q_ix (by omega), hW _ a1, (v_c2 _ a1).1, a2, if_pos (show nI 32 = 32 from rfl)]
    · right
      refine ⟨fun z => q z.2, ?_⟩
      rcases hJ (wM j) (Nat.le_refl _) (.inl q) with hJ | hJ
      · obtain ⟨b1, b2⟩ := h.2.2 (p + wM j) (by omega)
        have hL := (v_cL _ b1 (hl (p + wM j) (by omega) (by omega))).2
        conv => lhs; unfold f12_wordAt_L20
        rw [nI_add, if_pos (nI_lt (by omega) (by omega)), nI_1, nI_add, k_cin _ a1 (by omega), k_cin _ (by omega) (by omega), q_ix (by omega), q_ix (by omega), hW _ a1, (v_c2 _ a1).1, a2, b2, if_neg (by rw [nI_eq (by omega) (by omega)]; omega)]
        exact hJ
      · omega
  | succ r ih =>
    intro i m h1 h2 h3 h4
    obtain ⟨m, rfl⟩ : ∃ k, m = k + 1 := ⟨m - 1, by omega⟩
    have hi : i < wM j := by omega
    have hc := v_c2 (wB j + 1 + i) (by omega)
    rcases hJ i (by omega) (.inr hi) with hJ | hJ
    · by_cases q : p + i < e
      · obtain ⟨b1, b2⟩ := h.2.2 (p + i) (by omega)
        by_cases q3 : b (p + i) = c2 (wB j + 1 + i)
        · have hs : f12_wordAt_L20 K (m + 1) (nI p) (nI e) (nI j) (nI (wB j)) (nI i) τ = f12_wordAt_L20 K m (nI p) (nI e) (nI j) (nI (wB j)) (nI (i + 1)) τ := by
            conv => lhs; unfold f12_wordAt_L20
            rw [nI_add, if_pos (nI_lt (by omega) (by omega)), nI_1, nI_1, nI_add, k_cin _ (by omega) (by omega), k_cin _ (by omega) (by omega), q_ix (by omega), q_ix (by omega), hW _ (by omega), hc.1, b2, if_pos (by rw [q3])]
          rw [hs]
          exact ih (i + 1) m (by omega) (by omega) (by omega) (by rw [gd_s, h4]; simp [q, q3])
        · right
          refine ⟨fun z => q3 (gd_at z.1 i hi).2, ?_⟩
          conv => lhs; unfold f12_wordAt_L20
          rw [nI_add, if_pos (nI_lt (by omega) (by omega)), nI_1, nI_add, k_cin _ (by omega) (by omega), k_cin _ (by omega) (by omega), q_ix (by omega), q_ix (by omega), hW _ (by omega), hc.1, b2, if_neg (by rw [nI_eq (by omega) (by omega)]; omega)]
          exact hJ
      · right
        refine ⟨fun z => by have := z.2; omega, ?_⟩
        conv => lhs; unfold f12_wordAt_L20
        rw [nI_add, if_neg (nI_nlt (by omega) (by omega))]
        exact hJ
    · omega
theorem w_ref2 {n p e : Nat} {b : Nat → Nat} {τ : z_M} (h : TM n b τ) (hW : ∀ k, k < 145 → τ 8 k = m_words k) (hpe : p < e) (hen : e ≤ n) (hl : ∀ x, p ≤ x → x < e → isL (b x) = true) : ∀ r j m (v : Int32), j + r = 28 → r < m → v + 1 = nI j → (∃ k, j ≤ k ∧ k < 28 ∧ M2 b p e k ∧ f12_wordAt_L5 m (nI p) (nI e) v (nI (wB j)) τ = some (nI k, τ)) ∨ ((∀ k, j ≤ k → k < 28 → ¬ M2 b p e k) ∧ f12_wordAt_L5 m (nI p) (nI e) v (nI (wB j)) τ = some (-1, τ))
  | 0, j, m, v, h1, h2, hv => by
    obtain ⟨m, rfl⟩ : ∃ k, m = k + 1 := ⟨m - 1, by omega⟩
    obtain rfl : j = 28 := by omega
    right
    refine ⟨fun k a c => absurd a (by omega), ?_⟩
    have e28 : wB 28 = 144 := by decide
    unfold f12_wordAt_L5
    rw [e28, if_neg (show ¬ nI 144 < 144 from nI_nlt (a := 144) (b := 144) (by omega) (by omega))]
  | r + 1, j, m, v, h1, h2, hv => by
    obtain ⟨m, rfl⟩ : ∃ k, m = k + 1 := ⟨m - 1, by omega⟩
    obtain ⟨a1, a2, a3, a4, a5⟩ := v_wB j (by omega)
    have hb : f12_wordAt_L5 (m + 1) (nI p) (nI e) v (nI (wB j)) τ = f12_wordAt_L20 (f12_wordAt_L5 m) z_fu (nI p) (nI e) (nI j) (nI (wB j)) (nI 0) τ := by
      conv => lhs; unfold f12_wordAt_L5
      rw [if_pos (show nI (wB j) < 144 from nI_lt (a := wB j) (b := 144) (by omega) (by omega)), hv]
      rfl
    rw [hb]
    rcases w_ref h hW hpe hen hl (j := j) (by omega) (f12_wordAt_L5 m) (wM j) 0 z_fu (by omega) (show wM j < 1000 by omega) (by omega) rfl with ⟨q1, q2⟩ | ⟨q1, q2⟩
    · exact .inl ⟨j, Nat.le_refl _, by omega, q1, q2⟩
    · rw [q2]
      rcases w_ref2 h hW hpe hen hl r (j + 1) m (nI j) (by omega) (by omega) (nI_1 _) with ⟨k, k1, k2, k3, k4⟩ | ⟨k1, k2⟩
      · exact .inl ⟨k, by omega, k2, k3, k4⟩
      · refine .inr ⟨fun k a c => ?_, k2⟩
        by_cases ek : k = j
        · rw [ek]; exact q1
        · exact k1 k (by omega) c
theorem v_wi : ∀ j, j < 28 → ∀ k, k < 28 → wp j = wp k → j = k := by decide +kernel
/-- both -/
theorem w_both {n p e : Nat} {b : Nat → Nat} (hpe : p < e) (hen : e ≤ n) (hl : ∀ x, p ≤ x → x < e → isL (b x) = true) : ((∀ σ, TC n b σ → f8_wordOf (nI p) (nI e) σ = some (44, σ)) ∧ ∀ τ, TM n b τ → (∀ k, k < 145 → τ 8 k = m_words k) → f12_wordAt (nI p) (nI e) τ = some (-1, τ)) ∨ ∃ j, j < 28 ∧ (∀ σ, TC n b σ → f8_wordOf (nI p) (nI e) σ = some (nI j, σ)) ∧ ∀ τ, TM n b τ → (∀ k, k < 145 → τ 8 k = m_words k) → f12_wordAt (nI p) (nI e) τ = some (nI (wp j), τ) := by
  by_cases q : ∃ j, j < 28 ∧ M2 b p e j
  · obtain ⟨k, k1, k2⟩ := q
    obtain ⟨l1, l2⟩ := v_wq k k1
    right
    have hM1 : M1 b p e (wq k) := by rw [M_12 l1, l2]; exact k2
    refine ⟨wq k, l1, fun σ h => ?_, fun τ h hW => ?_⟩
    · rcases w_out h hpe hen hl 28 0 z_fu (by omega) (show 144 - wA 0 < 1000 by omega) with ⟨j, -, j2, j3, j4⟩ | ⟨j1, -⟩
      · have : wp j = wp (wq k) := by
          rw [l2]
          exact M2_one (v_wp j j2).1 k1 ((M_12 j2).mp j3) k2
        have hj : j = wq k := v_wi j j2 (wq k) l1 this
        rw [← hj]; exact j4
      · exact absurd hM1 (j1 _ (Nat.zero_le _) l1)
    · rw [l2]
      rcases w_ref2 h hW hpe hen hl 28 0 z_fu (-1) (by omega) (by decide) rfl with ⟨j, -, j2, j3, j4⟩ | ⟨j1, -⟩
      · rw [← M2_one j2 k1 j3 k2]; exact j4
      · exact absurd k2 (j1 _ (Nat.zero_le _) k1)
  · left
    refine ⟨fun σ h => ?_, fun τ h hW => ?_⟩
    · rcases w_out h hpe hen hl 28 0 z_fu (by omega) (show 144 - wA 0 < 1000 by omega) with ⟨j, -, j2, j3, j4⟩ | ⟨-, j2⟩
      · exact absurd ⟨wp j, (v_wp j j2).1, (M_12 j2).mp j3⟩ q
      · exact j2
    · rcases w_ref2 h hW hpe hen hl 28 0 z_fu (-1) (by omega) (by decide) rfl with ⟨j, -, j2, j3, j4⟩ | ⟨-, j2⟩
      · exact absurd ⟨j, j2, j3⟩ q
      · exact j2
