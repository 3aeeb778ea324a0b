theorem q_lt2 {p : Int32} : (2 < p) ↔ ¬ p < 3 := q_pred (n := 3) (by omega)
/-- reason -/
theorem p_reason0 : p_reason Rel0 := by
  intro p1 p2 σ τ hR
  have hR0 := hR
  obtain ⟨⟨H, hN, hU⟩, hI, hT, hF, hC⟩ := hR
  obtain ⟨g1, g2, g3, ⟨n, hn, en, em, hl⟩, -⟩ := hN
  have en : σ 4 2 = nI n := en
  have hm : z_set τ 0 0 0 0 36 - 1 = nI n - 1 := by
    show τ 0 36 - 1 = nI n - 1
    rw [show τ 0 36 = nI n from em]
  by_cases h0 : p1 < 0
  · refine ⟨-1, σ, z_set τ 0 0 0, ?_, ?_, hR0⟩
    · unfold f11_reason; rw [if_pos h0]
    · unfold f12_reason f12_reason_J39; rw [q_let, e12_isIn, if_pos h0]; rfl
  by_cases h1 : p1 < nI n
  · have h1' : ¬ nI n - 1 < p1 := by rw [q_pred (by omega)]; exact fun h => h h1
    by_cases h2 : p2 < 0
    · refine ⟨-1, σ, z_set τ 0 0 0, ?_, ?_, hR0⟩
      · unfold f11_reason; rw [if_neg h0, en, if_pos h1, if_pos h2]
      · unfold f12_reason f12_reason_J39; rw [q_let, e12_isIn, if_neg h0, hm, if_neg h1', q_bnd, if_neg (by decide), e12_isIn, if_pos h2]; rfl
    · by_cases h3 : 2 < p2
      · refine ⟨-1, σ, z_set τ 0 0 0, ?_, ?_, hR0⟩
        · unfold f11_reason; rw [if_neg h0, en, if_pos h1, if_neg h2, if_pos h3]
        · unfold f12_reason f12_reason_J39; rw [q_let, e12_isIn, if_neg h0, hm, if_neg h1', q_bnd, if_neg (by decide), e12_isIn, if_neg h2, if_pos h3]; rfl
      · obtain ⟨i, hi, rfl⟩ := q_nat (by omega) h0 h1
        obtain ⟨k, hk, rfl⟩ := q_natle (n := 2) h2 h3
        have e1 : nI i * 5 + nI k = nI (i * 5 + k) := by
          show nI i * nI 5 + nI k = _
          rw [pk_mul, nI_add]
        have e2 : 3 * nI i + nI k = nI (3 * i + k) := by
          show nI 3 * nI i + nI k = _
          rw [pk_mul, nI_add]
        have ev : τ 17 (3 * i + k) = σ 5 (i * 5 + k) := by
          obtain ⟨⟨a0, a1, a2⟩, -⟩ := hl i hi
          rw [Nat.mul_comm i 5]
          match k, hk with
          | 0, _ => exact a0
          | 1, _ => exact a1
          | 2, _ => exact a2
          | k + 3, h => omega
        refine ⟨σ 5 (i * 5 + k), σ, z_set τ 0 0 0, ?_, ?_, hR0⟩
        · unfold f11_reason f9_at; rw [if_neg h0, en, if_pos h1, if_neg h2, if_neg h3, e1, show S1.2.1 (4 + 1) = 80 from rfl, q_chk _ (q_in (by omega) (by omega)), q_ix (by omega)]; rfl
        · unfold f12_reason f12_reason_J39 f12_ofReason
          rw [q_let, e12_isIn, if_neg h0, hm, if_neg h1', q_bnd, if_neg (by decide), e12_isIn, if_neg h2, if_neg h3, q_bnd, if_neg (by decide), e2, q_chk _ (q_in (by omega) (by omega)), q_ix (by omega), q_bnd]
          rw [show z_set τ 0 0 0 17 (3 * i + k) = σ 5 (i * 5 + k) from ev]
  · refine ⟨-1, σ, z_set τ 0 0 0, ?_, ?_, hR0⟩
    · unfold f11_reason; rw [if_neg h0, en, if_neg h1]
    · unfold f12_reason f12_reason_J39; rw [q_let, e12_isIn, if_neg h0, hm, if_pos (by rw [q_pred (by omega)]; exact h1)]; rfl
/-- what can be undone is forgotten -/
theorem R_und_none {H : Nat} {σ τ σ' τ' : z_M} (h : R_und H σ τ) (h1 : σ' 58 1 = σ 58 1) (h2 : σ' 58 2 = 0) (h3 : τ' 0 3 = 0) {H' : Nat} : R_und H' σ' τ' := by
  obtain ⟨nx, uc, u1, u2, u3, -⟩ := h
  exact ⟨nx, 0, u1, by omega, by rw [h1]; exact u3, h2, h3, fun j hj => absurd hj (by omega)⟩
