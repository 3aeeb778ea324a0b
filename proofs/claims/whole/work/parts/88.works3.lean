/-! all the lines of works -/
/-- the class's loop ends where a fault is told -/
theorem e3_readF {v1 v3 : Int32} {m : Nat} {σ : z_M} (h2 : ¬ σ 101 2 = 0) : f3_read_L63 (m + 1) v1 v3 σ = some (0, σ) := by
  unfold f3_read_L63 f3_read_J132
  rw [if_neg h2, if_neg h2, ite_self]
theorem Fa_trans {σ τ σ1 τ1 σ' τ' : z_M} (hc : XC σ σ1) (hm : XM τ τ1) (h : Fa σ1 τ1 σ' τ') : Fa σ τ σ' τ' := by
  obtain ⟨f, p, a1, a2, a3, a4, a5, a6, a7⟩ := h
  exact ⟨f, p, a1, a2, a3, a4, a5, XC_trans hc a6, XM_trans hm a7⟩
theorem r_works {n N H : Nat} {b P : Nat → Nat} {K V L : Nat → Int32} (hB : TkB n b N P K V L) (hH : H ≤ 8) : ∀ (r k x m m' : Nat) (σ τ : z_M), k + r = 12 → r + 1 < m → r + 1 < m' → AC N K V L x σ → AM n b P K V L x τ → σ 101 2 = 0 → σ 102 2 = nI k → σ 101 5 = nI H → σ 101 6 = 12 → τ 0 6 = nI H → DW H k σ τ → (∃ σ' τ' k', k' ≤ 12 ∧ f3_read_L63 m 2 (nI k) σ = some (1, σ') ∧ f12_readWorks_L2 m' (nI k) τ = some (nI k', τ') ∧ σ' 101 2 = 0 ∧ σ' 101 3 = σ 101 3 ∧ σ' 102 2 = nI k' ∧ (∀ s, s ≠ 2 → σ' 102 s = σ 102 s) ∧ XC σ σ' ∧ XM τ τ' ∧ DW H k' σ' τ') ∨ ∃ σ' τ', f3_read_L63 m 2 (nI k) σ = some (0, σ') ∧ f12_readWorks_L2 m' (nI k) τ = some (-1, τ') ∧ Fa σ τ σ' τ' := by
  have hN : N ≤ 400 := by have := hB.1; have := hB.2.1; omega
  intro r
  induction r with
  | zero =>
    intro k x m m' σ τ h1 hm1 hm2 hc hm h2 h102 h5 h6 e6 hD
    obtain ⟨m, rfl⟩ : ∃ z, m = z + 2 := ⟨m - 2, by omega⟩
    obtain ⟨m', rfl⟩ : ∃ z, m' = z + 1 := ⟨m' - 1, by omega⟩
    have hcl : f3_read_L63 (m + 2) 2 (nI k) σ = if K x = 43 then some (1, σ) else z_bnd (f3_readWork σ) fun _ σ6 => f3_read_L63 (m + 1) 2 (nI (k + 1)) σ6 := by
      conv => lhs; unfold f3_read_L63
      unfold f3_read_J132
      rw [h6, if_neg (show ¬ 12 < nI k from nI_nlt (a := 12) (b := k) (by omega) (by omega)), if_pos h2, e3_kind hc hN, q_bnd, if_pos h2, if_neg (show ¬ (2 : Int32) = 0 by decide), if_neg (show ¬ (2 : Int32) = 1 by decide), if_pos (show (2 : Int32) = 2 from rfl), nI_1]
    rw [hcl]
    by_cases q : K x = 43
    · left
      refine ⟨σ, τ, k, by omega, if_pos q, ?_, h2, rfl, h102, fun _ _ => rfl, XC_refl _, XM_refl _, hD⟩
      have w18 : f12_isWord 18 τ = some (if K x = 18 then 1 else 0, τ) := e12_isWord (j := 18) hm (by omega)
      unfold f12_readWorks_L2 f12_readWorks_J157
      rw [w18, q_bnd, q, if_neg (show ¬ (43 : Int32) = 18 by decide), i_00, if_pos ((AM_end hm).mpr q)]
    · rw [if_neg q]
      rcases r_work hB hc hm h2 (by omega) h102 hH h5 h6 e6 q hD with ⟨-, -, -, hk, -⟩ | ⟨σ', τ', a1, a2, a3⟩
      · omega
      · right
        obtain ⟨f, p, f1, f2, f3⟩ := a3
        rw [a1, q_bnd, a2, e3_readF (by rw [f2]; exact f1)]
        exact ⟨σ', τ', rfl, rfl, f, p, f1, f2, f3⟩
  | succ r ih =>
    intro k x m m' σ τ h1 hm1 hm2 hc hm h2 h102 h5 h6 e6 hD
    obtain ⟨m, rfl⟩ : ∃ z, m = z + 2 := ⟨m - 2, by omega⟩
    obtain ⟨m', rfl⟩ : ∃ z, m' = z + 1 := ⟨m' - 1, by omega⟩
    have hcl : f3_read_L63 (m + 2) 2 (nI k) σ = if K x = 43 then some (1, σ) else z_bnd (f3_readWork σ) fun _ σ6 => f3_read_L63 (m + 1) 2 (nI (k + 1)) σ6 := by
      conv => lhs; unfold f3_read_L63
      unfold f3_read_J132
      rw [h6, if_neg (show ¬ 12 < nI k from nI_nlt (a := 12) (b := k) (by omega) (by omega)), if_pos h2, e3_kind hc hN, q_bnd, if_pos h2, if_neg (show ¬ (2 : Int32) = 0 by decide), if_neg (show ¬ (2 : Int32) = 1 by decide), if_pos (show (2 : Int32) = 2 from rfl), nI_1]
    rw [hcl]
    by_cases q : K x = 43
    · left
      refine ⟨σ, τ, k, by omega, if_pos q, ?_, h2, rfl, h102, fun _ _ => rfl, XC_refl _, XM_refl _, hD⟩
      have w18 : f12_isWord 18 τ = some (if K x = 18 then 1 else 0, τ) := e12_isWord (j := 18) hm (by omega)
      unfold f12_readWorks_L2 f12_readWorks_J157
      rw [w18, q_bnd, q, if_neg (show ¬ (43 : Int32) = 18 by decide), i_00, if_pos ((AM_end hm).mpr q)]
    · rw [if_neg q]
      rcases r_work hB hc hm h2 (by omega) h102 hH h5 h6 e6 q hD with ⟨σ1, τ1, x1, -, a1, a2, a3, a4, a5, a6, a7, a8, a9, a10⟩ | ⟨σ', τ', a1, a2, a3⟩
      · rw [a1, q_bnd, a2]
        rcases ih (k + 1) x1 (m + 1) m' σ1 τ1 (by omega) (by omega) (by omega) a3 a5 a4.1 a8 (by rw [a6.2.1]; exact h5) (by rw [a6.2.2]; exact h6) (by rw [a7.2.1 6 (by omega)]; exact e6) a10 with ⟨σ', τ', k', c1, c2, c3, c4, c5, c6, c7, c8, c9, c10⟩ | ⟨σ', τ', c1, c2, c3⟩
        · exact .inl ⟨σ', τ', k', c1, c2, c3, c4, c5.trans a4.2, c6, fun s hs => (c7 s hs).trans (a9 s hs), XC_trans a6 c8, XM_trans a7 c9, c10⟩
        · exact .inr ⟨σ', τ', c1, c2, Fa_trans a6 a7 c3⟩
      · right
        obtain ⟨f, p, f1, f2, f3⟩ := a3
        rw [a1, q_bnd, a2, e3_readF (by rw [f2]; exact f1)]
        exact ⟨σ', τ', rfl, rfl, f, p, f1, f2, f3⟩
