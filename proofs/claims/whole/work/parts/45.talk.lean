/-- talk: the talks are forgotten, or one comes -/
theorem p_talk0 : p_talk Rel0 := by
  intro p1 p2 p3 σ τ hR
  have hR0 := hR
  obtain ⟨⟨H, hN, hU⟩, hI, hT, hF, hC⟩ := hR
  obtain ⟨g1, g2, g3, g4, g5, g6, g7, g8, g9, g10⟩ := hN
  obtain ⟨n, hn, en, em, hl⟩ := g8
  have en : σ 1 11 = nI n := en
  have em : τ 0 52 = nI n := em
  have eh : σ 1 0 = nI H := g1.2.1
  have ehm : z_set τ 0 0 0 0 6 = nI H := g1.2.2.1
  by_cases ha : p1 = -1
  · refine ⟨0, z_set σ 1 11 0, z_set (z_set τ 0 0 0) 0 52 0, ?_, ?_, ⟨H, ⟨g1, g2, g3, g4, g5, g6, g7, ⟨0, by omega, rfl, rfl, fun i hi => absurd hi (by omega)⟩, g9, g10⟩, R_und_cong hU (fun c h1 h2 => by rw [q_set, if_neg (by omega)]) rfl rfl⟩, hI, hT, hF, hC⟩
    · unfold f11_talk; rw [if_pos ha]; rfl
    · unfold f12_talk; rw [q_let, if_pos ha]; rfl
  by_cases h0 : p1 < 0
  · refine ⟨-1, σ, z_set τ 0 0 0, ?_, ?_, hR0⟩
    · unfold f11_talk; rw [if_neg ha, e11_isHouse, if_pos h0]; rfl
    · unfold f12_talk; rw [q_let, if_neg ha, e12_isHouse, if_pos h0]; rfl
  by_cases h1 : ¬ p1 < nI H
  · refine ⟨-1, σ, z_set τ 0 0 0, ?_, ?_, hR0⟩
    · unfold f11_talk; rw [if_neg ha, e11_isHouse, if_neg h0, eh, if_neg h1]; rfl
    · unfold f12_talk; rw [q_let, if_neg ha, e12_isHouse, if_neg h0, ehm, if_neg h1]; rfl
  have h1 := Decidable.not_not.mp h1
  have c1 : f11_talk p1 p2 p3 σ = (if (if p2 < 0 then (0 : Int32) else if p2 < 8 then 1 else 0) = 0 then some (-1, σ) else if p3 < 0 then some (-1, σ) else if 1 < p3 then some (-1, σ) else if σ 1 11 < 12 then z_bnd (f1_heard 1 p1 p2 p3 σ) fun _ σ6 => some (σ6 1 11, σ6) else some (-1, σ)) := by
    unfold f11_talk; rw [if_neg ha, e11_isHouse, if_neg h0, eh, if_pos h1, q_bnd, if_neg (by decide), e11_isThing, q_bnd]
  have c2 : f12_talk p1 p2 p3 τ = (if (if p2 < 0 then (0 : Int32) else if p2 < 8 then 1 else 0) = 0 then some (-1, z_set τ 0 0 0) else if (if p3 < 0 then (0 : Int32) else if 1 < p3 then 0 else 1) = 0 then some (-1, z_set τ 0 0 0) else if z_set τ 0 0 0 0 52 = 12 then some (-1, z_set τ 0 0 0) else z_chk (z_in (z_set τ 0 0 0 0 52) 12) <| z_let (z_set (z_set τ 0 0 0) 29 (z_ix (z_set τ 0 0 0 0 52)) p1) fun σ9 => z_chk (z_in (σ9 0 52) 12) <| z_let (z_set σ9 30 (z_ix (σ9 0 52)) p2) fun σ11 => z_chk (z_in (σ11 0 52) 12) <| z_let (z_set σ11 31 (z_ix (σ11 0 52)) p3) fun σ13 => z_let (z_set σ13 0 52 ((σ13 0 52) + 1)) fun σ14 => some (σ14 0 52, σ14)) := by
    unfold f12_talk; rw [q_let, if_neg ha, e12_isHouse, if_neg h0, ehm, if_pos h1, q_bnd, if_neg (by decide), e12_isThing, q_bnd, e12_isIn, q_bnd]
  rw [c1, c2]
  have q1 : ((1 : Int32) = 0) = False := by simp
  by_cases h2 : p2 < 0
  · simp only [h2, if_true]; exact ⟨-1, σ, _, rfl, rfl, hR0⟩
  by_cases h3 : ¬ p2 < 8
  · simp only [h2, h3, if_true, if_false]; exact ⟨-1, σ, _, rfl, rfl, hR0⟩
  have h3 := Decidable.not_not.mp h3
  by_cases h4 : p3 < 0
  · simp only [h2, h3, h4, q1, if_true, if_false]; exact ⟨-1, σ, _, rfl, rfl, hR0⟩
  by_cases h5 : 1 < p3
  · simp only [h2, h3, h4, h5, q1, if_true, if_false]; exact ⟨-1, σ, _, rfl, rfl, hR0⟩
  have em' : z_set τ 0 0 0 0 52 = nI n := em
  by_cases h6 : n = 12
  · subst h6
    have q12 : (nI 12 < 12) = False := by simp only [eq_iff_iff, iff_false]; decide
    have q13 : (nI 12 = 12) = True := by simp only [eq_iff_iff, iff_true]; decide
    simp only [h2, h3, h4, h5, q1, en, em', q12, q13, if_true, if_false]; exact ⟨-1, σ, _, rfl, rfl, hR0⟩
  have h6' : n < 12 := by omega
  have q12 : (nI n < 12) = True := by simp only [eq_iff_iff, iff_true]; exact nI_lt (b := 12) h6' (by omega)
  have q13 : (nI n = 12) = False := by simp only [eq_iff_iff, iff_false]; exact fun e => h6 ((nI_eq (b := 12) (by omega) (by omega)).mp e)
  simp only [h2, h3, h4, h5, q1, en, em', q12, q13, if_true, if_false]
  obtain ⟨t, ht, rfl⟩ := q_nat (n := 8) (by omega) h2 h3
  obtain ⟨w, hw, rfl⟩ := q_natle (n := 1) h4 h5
  have k0 : nI n * 3 = nI (3 * n) := by
    show nI n * nI 3 = _
    rw [pk_mul, Nat.mul_comm]
  have k1 : nI (3 * n) + 1 = nI (3 * n + 1) := nI_add _ 1
  have k2 : nI (3 * n) + 2 = nI (3 * n + 2) := nI_add _ 2
  have k3 : nI (3 * n) + 3 = nI (3 * n + 3) := nI_add _ 3
  have k4 : ¬ 36 < nI (3 * n + 3) := nI_nlt (a := 36) (by omega) (by omega)
  have hheard : f1_heard 1 p1 (nI t) (nI w) σ = some ((), z_set (z_set (z_set (z_set σ 16 (3 * n) p1) 16 (3 * n + 1) (nI t)) 16 (3 * n + 2) (nI w)) 1 11 (nI n + 1)) := by
    unfold f1_heard
    rw [en, k0, k3, if_neg k4, k1, k2, q_chk _ (q_in (by omega) (by omega)), q_let, q_chk _ (q_in (by omega) (by omega)), q_let, q_chk _ (q_in (by omega) (by omega)), q_let, q_let, q_ix (by omega), q_ix (by omega), q_ix (by omega)]
    rw [show z_set (z_set (z_set σ (1 + 15) (3 * n) p1) (1 + 15) (3 * n + 1) (nI t)) (1 + 15) (3 * n + 2) (nI w) 1 11 = nI n from en]
  refine ⟨nI n + 1, z_set (z_set (z_set (z_set σ 16 (3 * n) p1) 16 (3 * n + 1) (nI t)) 16 (3 * n + 2) (nI w)) 1 11 (nI n + 1), z_set (z_set (z_set (z_set (z_set τ 0 0 0) 29 n p1) 30 n (nI t)) 31 n (nI w)) 0 52 (nI n + 1), ?_, ?_, ⟨H, ⟨g1, g2, g3, g4, g5, g6, g7, ⟨n + 1, by omega, nI_1 n, nI_1 n, fun i hi => ?_⟩, g9, g10⟩, R_und_cong hU (fun c h1 h2 => by rw [q_set, if_neg (by omega), q_set, if_neg (by omega), q_set, if_neg (by omega), q_set, if_neg (by omega)]) rfl rfl⟩, hI, hT, hF, hC⟩
  · rw [hheard]; rfl
  · rw [q_chk _ (q_in (by omega) (by omega)), q_let, q_ix (by omega)]
    rw [show z_set (z_set τ 0 0 0) 29 n p1 0 52 = nI n from em, q_chk _ (q_in (by omega) (by omega)), q_let, q_ix (by omega)]
    rw [show z_set (z_set (z_set τ 0 0 0) 29 n p1) 30 n (nI t) 0 52 = nI n from em, q_chk _ (q_in (by omega) (by omega)), q_let, q_ix (by omega), q_let]
    rw [show z_set (z_set (z_set (z_set τ 0 0 0) 29 n p1) 30 n (nI t)) 31 n (nI w) 0 52 = nI n from em]
    rfl
  · show (upd (τ 29) n p1 i = upd (upd (upd (σ 16) (3 * n) p1) (3 * n + 1) (nI t)) (3 * n + 2) (nI w) (3 * i) ∧ upd (τ 30) n (nI t) i = upd (upd (upd (σ 16) (3 * n) p1) (3 * n + 1) (nI t)) (3 * n + 2) (nI w) (3 * i + 1) ∧ upd (τ 31) n (nI w) i = upd (upd (upd (σ 16) (3 * n) p1) (3 * n + 1) (nI t)) (3 * n + 2) (nI w) (3 * i + 2)) ∧ (∃ k, k < 8 ∧ upd (upd (upd (σ 16) (3 * n) p1) (3 * n + 1) (nI t)) (3 * n + 2) (nI w) (3 * i + 1) = nI k) ∧ (upd (upd (upd (σ 16) (3 * n) p1) (3 * n + 1) (nI t)) (3 * n + 2) (nI w) (3 * i + 2) = 0 ∨ upd (upd (upd (σ 16) (3 * n) p1) (3 * n + 1) (nI t)) (3 * n + 2) (nI w) (3 * i + 2) = 1)
    simp only [q_upd]
    by_cases hin : i = n
    · subst hin
      have w01 : nI w = 0 ∨ nI w = 1 := by
        rcases (show w = 0 ∨ w = 1 by omega) with rfl | rfl
        · exact Or.inl rfl
        · exact Or.inr rfl
      simp
      exact ⟨⟨t, ht, rfl⟩, w01⟩
    · have hi' : i < n := by omega
      rw [if_neg hin, if_neg hin, if_neg hin, if_neg (by omega), if_neg (by omega), if_neg (by omega), if_neg (by omega), if_neg (by omega), if_neg (by omega), if_neg (by omega), if_neg (by omega), if_neg (by omega)]
      exact hl i hi'
