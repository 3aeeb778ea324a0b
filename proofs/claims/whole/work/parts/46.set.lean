/-- set -/
theorem e11_mostOf (p : Int32) (σ : z_M) : f11_mostOf p σ = some (if p = 0 then 8 else if p = 3 then 5 else 1000, σ) := by
  unfold f11_mostOf
  split
  · rfl
  · split <;> rfl
theorem p_set0 : p_set Rel0 := by
  intro p1 p2 p3 σ τ hR
  have hR0 := hR
  obtain ⟨⟨H, hN, hU⟩, hI, hT, hF, hC⟩ := hR
  obtain ⟨g1, g2, g3, g4, g5, g6, g7, g8, g9, g10⟩ := hN
  have no : ∀ {x : Option (Int32 × z_M)} {y : Option (Int32 × z_M)}, x = some (0, σ) → y = some (0, z_set τ 0 0 0) → ∃ (r : Int32) (σ' τ' : z_M), x = some (r, σ') ∧ y = some (r, τ') ∧ Rel0 σ' τ' := fun h1 h2 => ⟨0, σ, _, h1, h2, hR0⟩
  by_cases h0 : p1 < 0
  · exact no (by unfold f11_set; rw [if_pos h0]) (by unfold f12_set; rw [q_let, e12_isIn, if_pos h0]; rfl)
  by_cases h1 : 3 < p1
  · exact no (by unfold f11_set; rw [if_neg h0, if_pos h1]) (by unfold f12_set; rw [q_let, e12_isIn, if_neg h0, if_pos h1]; rfl)
  obtain ⟨k, hk, rfl⟩ := q_natle (n := 3) h0 h1
  have hin : f12_set (nI k) p2 p3 τ = (if nI k = 0 then f12_set_J39 (nI k) p2 p3 p3 0 8 (z_set τ 0 0 0) else if nI k = 3 then f12_set_J39 (nI k) p2 p3 p3 0 5 (z_set τ 0 0 0) else f12_set_J39 (nI k) p2 p3 p3 0 1000 (z_set τ 0 0 0)) := by
    unfold f12_set; rw [q_let, e12_isIn, if_neg h0, if_neg h1, q_bnd, if_neg (by decide)]
  have hcl : f11_set (nI k) p2 p3 σ = (if p3 < 0 then some (0, σ) else if (if nI k = 0 then (8 : Int32) else if nI k = 3 then 5 else 1000) < p3 then some (0, σ) else if nI k = 3 then z_bnd (f11_isThing p2 σ) fun r3 σ4 => if r3 = 0 then some (0, σ4) else f11_set_J35 (nI k) p2 p3 σ4 else f11_set_J35 (nI k) p2 p3 σ) := by
    unfold f11_set; rw [if_neg h0, if_neg h1, e11_mostOf, q_bnd]
  rw [hin, hcl]
  have hun : ∀ {σ' τ' : z_M}, σ' 58 1 = σ 58 1 → σ' 58 2 = 0 → τ' 0 3 = 0 → R_und H σ' τ' := fun a b c => R_und_none hU a b c
  have q1 : ((1 : Int32) = 0) = False := by simp
  have q0 : ((0 : Int32) = 0) = True := by simp
  rcases (show k = 0 ∨ k = 1 ∨ k = 2 ∨ k = 3 by omega) with rfl | rfl | rfl | rfl
  · have a0 : (nI 0 = 0) = True := by simp only [eq_iff_iff, iff_true]; decide
    have a1 : (nI 0 = 1) = False := by simp only [eq_iff_iff, iff_false]; decide
    have a2 : (nI 0 = 2) = False := by simp only [eq_iff_iff, iff_false]; decide
    have a3 : (nI 0 = 3) = False := by simp only [eq_iff_iff, iff_false]; decide
    simp only [a0, a3, if_true, if_false]
    unfold f12_set_J39
    rw [e12_isIn, q_bnd]
    by_cases h2 : p3 < 0
    · simp only [h2, q0, if_true]; exact no rfl rfl
    by_cases h3 : 8 < p3
    · simp only [h2, h3, q0, if_true, if_false]; exact no rfl rfl
    simp only [h2, h3, q1, a3, if_true, if_false]
    obtain ⟨v, hv, rfl⟩ := q_natle (n := 8) h2 h3
    unfold f11_set_J35 f12_set_J60 f12_set_J71 f12_set_J81 f12_set_J91 f12_set_J103
    simp only [a0, a1, a2, a3, if_true, if_false]
    obtain ⟨s1, s2, s3, s4, s5, s6, s7, s8, s9⟩ := g1
    exact ⟨1, z_set (z_set σ 58 2 0) 1 1 (nI v), z_set (z_set (z_set τ 0 0 0) 0 7 (nI v - 3)) 0 3 0, rfl, rfl, ⟨H, ⟨⟨s1, s2, s3, ⟨v, hv, rfl⟩, rfl, s6, s7, s8, s9⟩, g2, g3, g4, g5, g6, g7, g8, g9, g10⟩, hun rfl rfl rfl⟩, hI, hT, hF, hC⟩
  · have a0 : (nI 1 = 0) = False := by simp only [eq_iff_iff, iff_false]; decide
    have a1 : (nI 1 = 1) = True := by simp only [eq_iff_iff, iff_true]; decide
    have a2 : (nI 1 = 2) = False := by simp only [eq_iff_iff, iff_false]; decide
    have a3 : (nI 1 = 3) = False := by simp only [eq_iff_iff, iff_false]; decide
    simp only [a0, a3, if_true, if_false]
    unfold f12_set_J39
    rw [e12_isIn, q_bnd]
    by_cases h2 : p3 < 0
    · simp only [h2, q0, if_true]; exact no rfl rfl
    by_cases h3 : 1000 < p3
    · simp only [h2, h3, q0, if_true, if_false]; exact no rfl rfl
    simp only [h2, h3, q1, a3, if_true, if_false]
    obtain ⟨v, hv, rfl⟩ := q_natle (n := 1000) h2 h3
    unfold f11_set_J35 f12_set_J60 f12_set_J71 f12_set_J81 f12_set_J91 f12_set_J103
    simp only [a0, a1, a2, a3, if_true, if_false]
    obtain ⟨s1, s2, s3, s4, s5, s6, s7, s8, s9⟩ := g1
    exact ⟨1, z_set (z_set σ 58 2 0) 1 2 (nI v), z_set (z_set (z_set τ 0 0 0) 0 8 (nI v)) 0 3 0, rfl, rfl, ⟨H, ⟨⟨s1, s2, s3, s4, s5, ⟨v, hv, rfl⟩, rfl, s8, s9⟩, g2, g3, g4, g5, g6, g7, g8, g9, g10⟩, hun rfl rfl rfl⟩, hI, hT, hF, hC⟩
  · have a0 : (nI 2 = 0) = False := by simp only [eq_iff_iff, iff_false]; decide
    have a1 : (nI 2 = 1) = False := by simp only [eq_iff_iff, iff_false]; decide
    have a2 : (nI 2 = 2) = True := by simp only [eq_iff_iff, iff_true]; decide
    have a3 : (nI 2 = 3) = False := by simp only [eq_iff_iff, iff_false]; decide
    simp only [a0, a3, if_true, if_false]
    unfold f12_set_J39
    rw [e12_isIn, q_bnd]
    by_cases h2 : p3 < 0
    · simp only [h2, q0, if_true]; exact no rfl rfl
    by_cases h3 : 1000 < p3
    · simp only [h2, h3, q0, if_true, if_false]; exact no rfl rfl
    simp only [h2, h3, q1, a3, if_true, if_false]
    obtain ⟨v, hv, rfl⟩ := q_natle (n := 1000) h2 h3
    unfold f11_set_J35 f12_set_J60 f12_set_J71 f12_set_J81 f12_set_J91 f12_set_J103
    simp only [a0, a1, a2, a3, if_true, if_false]
    obtain ⟨s1, s2, s3, s4, s5, s6, s7, s8, s9⟩ := g1
    exact ⟨1, z_set (z_set σ 58 2 0) 1 3 (nI v), z_set (z_set (z_set τ 0 0 0) 0 9 (nI v)) 0 3 0, rfl, rfl, ⟨H, ⟨⟨s1, s2, s3, s4, s5, s6, s7, ⟨v, hv, rfl⟩, rfl⟩, g2, g3, g4, g5, g6, g7, g8, g9, g10⟩, hun rfl rfl rfl⟩, hI, hT, hF, hC⟩
  · have a0 : (nI 3 = 0) = False := by simp only [eq_iff_iff, iff_false]; decide
    have a1 : (nI 3 = 1) = False := by simp only [eq_iff_iff, iff_false]; decide
    have a2 : (nI 3 = 2) = False := by simp only [eq_iff_iff, iff_false]; decide
    have a3 : (nI 3 = 3) = True := by simp only [eq_iff_iff, iff_true]; decide
    simp only [a0, a3, if_true, if_false]
    unfold f12_set_J39
    rw [e12_isIn, q_bnd]
    by_cases h2 : p3 < 0
    · simp only [h2, q0, if_true]; exact no rfl rfl
    by_cases h3 : 5 < p3
    · simp only [h2, h3, q0, if_true, if_false]; exact no rfl rfl
    simp only [h2, h3, q1, a3, if_true, if_false]
    obtain ⟨v, hv, rfl⟩ := q_natle (n := 5) h2 h3
    rw [e11_isThing, e12_isThing, q_bnd, q_bnd]
    by_cases h4 : p2 < 0
    · simp only [h4, q0, if_true]; exact no rfl rfl
    by_cases h5 : ¬ p2 < 8
    · simp only [h4, h5, q0, if_true, if_false]; exact no rfl rfl
    have h5 := Decidable.not_not.mp h5
    obtain ⟨t, ht, rfl⟩ := q_nat (n := 8) (by omega) h4 h5
    simp only [h4, h5, q1, if_true, if_false]
    unfold f11_set_J35 f12_set_J60 f12_set_J71 f12_set_J81 f12_set_J91 f12_set_J103
    simp only [a0, a1, a2, a3, if_true, if_false]
    refine ⟨1, z_set (z_set σ 58 2 0) 2 t (nI v), z_set (z_set (z_set τ 0 0 0) 4 t (nI v)) 0 3 0, ?_, ?_, ⟨H, ⟨g1, fun i hi => ?_, g3, g4, g5, g6, g7, g8, g9, g10⟩, hun rfl rfl rfl⟩, hI, hT, hF, hC⟩
    · show z_chk (z_in (nI t) 8) _ = _
      rw [q_chk _ (q_in ht (by omega)), q_ix (by omega)]; rfl
    · rw [q_chk _ (q_in ht (by omega)), q_ix (by omega)]; rfl
    · show upd (τ 4) t (nI v) i = upd (σ 2) t (nI v) i ∧ ∃ n, n ≤ 5 ∧ upd (σ 2) t (nI v) i = nI n
      rw [q_upd, q_upd]
      by_cases hit : i = t
      · rw [if_pos hit, if_pos hit]; exact ⟨rfl, v, hv, rfl⟩
      · rw [if_neg hit, if_neg hit]; exact g2 i hi
