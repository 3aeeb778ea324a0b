theorem q_pred {p : Int32} {n : Nat} (hn : n < 2 ^ 30) : (nI n - 1 < p) ↔ ¬ p < nI n := by
  have h1 : (nI n - 1).toInt = (n : Int) - 1 := pk_sub_toInt (a := n) (b := 1) hn (by omega)
  rw [Int32.lt_iff_toInt_lt, Int32.lt_iff_toInt_lt, h1, nI_toInt (by omega)]
  omega
theorem q_lt3 {p : Int32} : (3 < p) ↔ ¬ p < 4 := q_pred (n := 4) (by omega)
/-- book -/
theorem p_book0 : p_book Rel0 := by
  intro p1 p2 σ τ hR
  have hR0 := hR
  obtain ⟨⟨H, hN, hU⟩, hI, hT, hF, hC⟩ := hR
  obtain ⟨g1, g2, g3, g4, g5, g6, g7, g8, g9, hB⟩ := hN
  obtain ⟨n, hn, en⟩ := hB.2.2.1
  have en : σ 18 8 = nI n := en
  have em : τ 1 2 = nI n := hB.1.2.2.1.trans en
  have hm : z_set τ 0 0 0 1 (z_ix 2) - 1 = nI n - 1 := by
    show τ 1 2 - 1 = nI n - 1
    rw [em]
  by_cases h0 : p1 < 0
  · refine ⟨-1, σ, z_set τ 0 0 0, ?_, ?_, hR0⟩
    · unfold f11_book; rw [if_pos h0]
    · unfold f12_book f12_book_J45; rw [q_let, q_chk _ (by decide), e12_isIn, if_pos h0]; rfl
  by_cases h1 : p1 < nI n
  · by_cases h2 : p2 < 0
    · refine ⟨-1, σ, z_set τ 0 0 0, ?_, ?_, hR0⟩
      · unfold f11_book; rw [if_neg h0, en, if_pos h1, if_pos h2]
      · unfold f12_book f12_book_J45; rw [q_let, q_chk _ (by decide), e12_isIn, if_neg h0, hm, if_neg (by rw [q_pred (by omega)]; exact fun h => h h1), q_bnd, if_neg (by decide), e12_isIn, if_pos h2]; rfl
    · by_cases h3 : p2 < 4
      · obtain ⟨i, hi, rfl⟩ := q_nat (by omega) h0 h1
        obtain ⟨k, hk, rfl⟩ := q_nat (n := 4) (by omega) h2 h3
        have e1 : nI i * 4 + nI k = nI (i * 4 + k) := by
          show nI i * nI 4 + nI k = _
          rw [pk_mul, nI_add]
        have e2 : 4 * nI i + nI k = nI (i * 4 + k) := by
          show nI 4 * nI i + nI k = _
          rw [pk_mul, nI_add, Nat.mul_comm]
        refine ⟨σ 17 (i * 4 + k), σ, z_set τ 0 0 0, ?_, ?_, hR0⟩
        · unfold f11_book; rw [if_neg h0, en, if_pos h1, if_neg h2, if_pos h3, e1, q_chk _ (q_in (by omega) (by omega)), q_ix (by omega)]
        · unfold f12_book f12_book_J45
          rw [q_let, q_chk _ (by decide), e12_isIn, if_neg h0, hm, if_neg (by rw [q_pred (by omega)]; exact fun h => h h1), q_bnd, if_neg (by decide), e12_isIn, if_neg h2, if_neg (by rw [q_lt3]; exact fun h => h h3), q_bnd, if_neg (by decide), e2, q_chk _ (q_in (by omega) (by omega)), q_ix (by omega)]
          rw [show z_set τ 0 0 0 6 (i * 4 + k) = σ 17 (i * 4 + k) from g9 (i * 4 + k) (by omega)]
      · refine ⟨-1, σ, z_set τ 0 0 0, ?_, ?_, hR0⟩
        · unfold f11_book; rw [if_neg h0, en, if_pos h1, if_neg h2, if_neg h3]
        · unfold f12_book f12_book_J45; rw [q_let, q_chk _ (by decide), e12_isIn, if_neg h0, hm, if_neg (by rw [q_pred (by omega)]; exact fun h => h h1), q_bnd, if_neg (by decide), e12_isIn, if_neg h2, if_pos (by rw [q_lt3]; exact h3)]; rfl
  · refine ⟨-1, σ, z_set τ 0 0 0, ?_, ?_, hR0⟩
    · unfold f11_book; rw [if_neg h0, en, if_neg h1]
    · unfold f12_book f12_book_J45; rw [q_let, q_chk _ (by decide), e12_isIn, if_neg h0, hm, if_pos (by rw [q_pred (by omega)]; exact h1)]; rfl
