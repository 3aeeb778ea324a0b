/-! guards of the calls; pot, water, weed, tell -/
theorem i_10 {α : Type} (a b : α) : (if (1 : Int32) = 0 then a else b) = b := if_neg (by decide)
theorem i_00 {α : Type} (a b : α) : (if (0 : Int32) = 0 then a else b) = a := if_pos rfl
theorem g_house {H : Nat} {σ τ : z_M} (hH : H ≤ 8) (eh : σ 1 0 = nI H) (em : τ 0 6 = nI H) (p : Int32) : (f11_isHouse p σ = some (0, σ) ∧ f12_isHouse p τ = some (0, τ)) ∨ ∃ h, h < H ∧ p = nI h ∧ f11_isHouse p σ = some (1, σ) ∧ f12_isHouse p τ = some (1, τ) := by
  rw [e11_isHouse, e12_isHouse, eh, em]
  by_cases h0 : p < 0
  · left; rw [if_pos h0]; exact ⟨rfl, rfl⟩
  by_cases h1 : p < nI H
  · right
    obtain ⟨j, hj, rfl⟩ := q_nat (by omega) h0 h1
    refine ⟨j, hj, rfl, ?_, ?_⟩
    · rw [if_neg h0, if_pos h1]
    · rw [if_neg h0, if_pos h1]
  · left; rw [if_neg h0, if_neg h1]; exact ⟨rfl, rfl⟩
theorem g_thing (p : Int32) (σ τ : z_M) : (f11_isThing p σ = some (0, σ) ∧ f12_isThing p τ = some (0, τ)) ∨ ∃ t, t < 8 ∧ p = nI t ∧ f11_isThing p σ = some (1, σ) ∧ f12_isThing p τ = some (1, τ) := by
  rw [e11_isThing, e12_isThing]
  by_cases h0 : p < 0
  · left; rw [if_pos h0]; exact ⟨rfl, rfl⟩
  by_cases h1 : p < 8
  · right
    obtain ⟨j, hj, rfl⟩ := q_nat (n := 8) (by omega) h0 h1
    refine ⟨j, hj, rfl, ?_, ?_⟩
    · rw [if_neg h0, if_pos h1]
    · rw [if_neg h0, if_pos h1]
  · left; rw [if_neg h0, if_neg h1]; exact ⟨rfl, rfl⟩
theorem g_in (p a b : Int32) (A B : Nat) (ha : a = nI A) (hb : b = nI B) (hB : B < 2 ^ 31) (hA : A ≤ B) (τ : z_M) : ((p < a ∨ (¬ p < a ∧ b < p)) ∧ f12_isIn p a b τ = some (0, τ)) ∨ ∃ v, A ≤ v ∧ v ≤ B ∧ p = nI v ∧ ¬ p < a ∧ ¬ b < p ∧ f12_isIn p a b τ = some (1, τ) := by
  rw [e12_isIn]
  by_cases h0 : p < a
  · left; rw [if_pos h0]; exact ⟨.inl h0, rfl⟩
  by_cases h1 : b < p
  · left; rw [if_neg h0, if_pos h1]; exact ⟨.inr ⟨h0, h1⟩, rfl⟩
  · right
    have hp : ¬ p < 0 := by
      intro hc
      apply h0
      have e1 := Int32.lt_iff_toInt_lt.mp hc
      apply Int32.lt_iff_toInt_lt.mpr
      rw [ha, nI_toInt (by omega)]
      have : (0 : Int32).toInt = 0 := rfl
      omega
    obtain ⟨j, hj, rfl⟩ := nI_of hp
    refine ⟨j, ?_, ?_, rfl, h0, h1, by rw [if_neg h0, if_neg h1]⟩
    · rcases Nat.lt_or_ge j A with q | q
      · exact absurd (by rw [ha]; exact nI_lt q (by omega)) h0
      · exact q
    · rcases Nat.lt_or_ge B j with q | q
      · exact absurd (by rw [hb]; exact nI_lt q (by omega)) h1
      · exact q
theorem p_pot0 : p_pot Rel0 := by
  intro p1 p2 p3 σ τ hR
  replace hR := Rel0_told hR
  unfold f12_pot f11_pot f12_pot_J47
  rw [q_let]
  generalize z_set τ 0 0 0 = τ at hR ⊢
  have hR0 := hR
  obtain ⟨⟨H, hN, hU⟩, hI, hT, hF, hC⟩ := hR
  have hN0 := hN
  obtain ⟨g1, g2, g3, g4, g5, g6, g7, g8, g9, g10⟩ := hN
  have hH := g1.1
  rcases g_house hH (σ := σ) (τ := τ) g1.2.1 g1.2.2.1 p1 with ⟨c1, c2⟩ | ⟨h, hh, rfl, c1, c2⟩
  · rw [c1, c2]; exact ⟨0, σ, τ, rfl, rfl, hR0⟩
  rw [c1, c2, q_bnd, q_bnd, i_10, i_10]
  rcases g_thing p2 σ τ with ⟨d1, d2⟩ | ⟨t, ht, rfl, d1, d2⟩
  · rw [d1, d2]; exact ⟨0, σ, τ, rfl, rfl, hR0⟩
  rw [d1, d2, q_bnd, q_bnd, i_10, i_10]
  rcases g_in p3 0 9 0 9 rfl rfl (by omega) (by omega) τ with ⟨n1 | ⟨n1, n2⟩, e⟩ | ⟨y, -, hy, rfl, n1, n2, e⟩
  · rw [if_pos n1, e]; exact ⟨0, σ, τ, rfl, rfl, hR0⟩
  · rw [if_neg n1, if_pos n2, e]; exact ⟨0, σ, τ, rfl, rfl, hR0⟩
  rw [if_neg n1, if_neg n2, e, q_bnd, i_10, e0_hasPot (by omega), q_bnd]
  have hv := (g10.2.2.2.2.1 h (by omega)).1
  have cd : f12_canDo 0 (nI h) τ = _ := e12_canDo (k := 0) (by omega) (by omega) τ hv
  unfold f12_acts
  rw [cd, q_bnd]
  by_cases hp : σ 20 h = -1
  · have i1 : (if σ (18 + 2) h = -1 then (0 : Int32) else 1) = 0 := if_pos hp
    have i2 : (if (0 = 0 ↔ σ (1 + 19) h = -1) then (1 : Int32) else 0) = 1 := if_pos ⟨fun _ => hp, fun _ => rfl⟩
    rw [i1, i2, if_pos rfl, if_neg (by decide)]
    obtain ⟨σ1, τ1, k1, k2, k3, k4, k5, k6⟩ := e_keep hU g10
    obtain ⟨sA, sB⟩ := Rel0_SA hR0 hN0
    obtain ⟨σ2, τ2, m1, m2, m3, -⟩ := e_put (x := 10) (SA_keep sA k4 k5 k6) (SB_keep sB k4 k5) hH hh ht (by omega) (by omega) hy 0
    rw [e0_putPot (by omega), q_bnd] at m1
    refine ⟨1, σ2, τ2, ?_, ?_, Rel0_step hR0 hN0 k3 k4 k5 k6 m3⟩
    · rw [k1, q_bnd]
      unfold f7_plant
      rw [show z_sb 50 = 18 from rfl, l_10, e0_putPot (by omega), q_bnd, m1, q_bnd, q_bnd]
    · rw [k2, q_bnd, e12_does0 _ _ _ _ m2, q_bnd, q_bnd, if_neg (by decide)]
  · have i1 : (if σ (18 + 2) h = -1 then (0 : Int32) else 1) = 1 := if_neg hp
    have i2 : (if (0 = 0 ↔ σ (1 + 19) h = -1) then (1 : Int32) else 0) = 0 := if_neg (fun q => hp (q.mp rfl))
    rw [i1, i2]
    exact ⟨0, σ, τ, rfl, rfl, hR0⟩
theorem p_water0 : p_water Rel0 := by
  intro p1 p2 σ τ hR
  replace hR := Rel0_told hR
  unfold f12_water f11_water f12_water_J39
  rw [q_let]
  generalize z_set τ 0 0 0 = τ at hR ⊢
  have hR0 := hR
  obtain ⟨⟨H, hN, hU⟩, hI, hT, hF, hC⟩ := hR
  have hN0 := hN
  obtain ⟨g1, g2, g3, g4, g5, g6, g7, g8, g9, g10⟩ := hN
  have hH := g1.1
  rcases g_house hH (σ := σ) (τ := τ) g1.2.1 g1.2.2.1 p1 with ⟨c1, c2⟩ | ⟨h, hh, rfl, c1, c2⟩
  · rw [c1, c2]; exact ⟨0, σ, τ, rfl, rfl, hR0⟩
  rw [c1, c2, q_bnd, q_bnd, i_10, i_10]
  rcases g_in p2 1 99 1 99 rfl rfl (by omega) (by omega) τ with ⟨n1 | ⟨n1, n2⟩, e⟩ | ⟨y, hy1, hy, rfl, n1, n2, e⟩
  · rw [if_pos n1, e]; exact ⟨0, σ, τ, rfl, rfl, hR0⟩
  · rw [if_neg n1, if_pos n2, e]; exact ⟨0, σ, τ, rfl, rfl, hR0⟩
  rw [if_neg n1, if_neg n2, e, q_bnd, i_10, e0_hasPot (by omega), q_bnd]
  have hv := (g10.2.2.2.2.1 h (by omega)).1
  have cd : f12_canDo 2 (nI h) τ = _ := e12_canDo (k := 2) (by omega) (by omega) τ hv
  unfold f12_acts
  rw [cd, q_bnd]
  by_cases hp : σ 20 h = -1
  · have i1 : (if σ (18 + 2) h = -1 then (0 : Int32) else 1) = 0 := if_pos hp
    have i2 : (if (2 = 0 ↔ σ (1 + 19) h = -1) then (1 : Int32) else 0) = 0 := if_neg (fun q => absurd (q.mpr hp) (by omega))
    rw [i1, i2]
    exact ⟨0, σ, τ, rfl, rfl, hR0⟩
  · have i1 : (if σ (18 + 2) h = -1 then (0 : Int32) else 1) = 1 := if_neg hp
    have i2 : (if (2 = 0 ↔ σ (1 + 19) h = -1) then (1 : Int32) else 0) = 1 := if_pos ⟨fun q => absurd q (by omega), fun q => absurd q hp⟩
    rw [i1, i2, if_neg (by decide), if_neg (by decide)]
    obtain ⟨σ1, τ1, k1, k2, k3, k4, k5, k6⟩ := e_keep hU g10
    obtain ⟨sA, sB⟩ := Rel0_SA hR0 hN0
    obtain ⟨σ2, τ2, w, m1, m2, m3, m4, -⟩ := e_pour (SA_keep sA k4 k5 k6) (SB_keep sB k4 k5) (h := h) (by omega) (by rw [k4 _ (by omega)]; exact hp) hy
    subst m3
    refine ⟨1, σ2, _, ?_, ?_, Rel0_step hR0 hN0 k3 k4 k5 k6 m4⟩
    · rw [k1, q_bnd, m1, q_bnd]
    · rw [k2, q_bnd, e12_does2 (by omega) _ _ _ _ m2, q_bnd, q_bnd, if_neg (by decide)]
theorem p_weed0 : p_weed Rel0 := by
  intro p1 σ τ hR
  replace hR := Rel0_told hR
  unfold f12_weed f11_weed f12_weed_J28
  rw [q_let]
  generalize z_set τ 0 0 0 = τ at hR ⊢
  have hR0 := hR
  obtain ⟨⟨H, hN, hU⟩, hI, hT, hF, hC⟩ := hR
  have hN0 := hN
  obtain ⟨g1, g2, g3, g4, g5, g6, g7, g8, g9, g10⟩ := hN
  have hH := g1.1
  rcases g_house hH (σ := σ) (τ := τ) g1.2.1 g1.2.2.1 p1 with ⟨c1, c2⟩ | ⟨h, hh, rfl, c1, c2⟩
  · rw [c1, c2]; exact ⟨0, σ, τ, rfl, rfl, hR0⟩
  rw [c1, c2, q_bnd, q_bnd, i_10, i_10, e0_hasPot (by omega), q_bnd]
  have hv := (g10.2.2.2.2.1 h (by omega)).1
  have cd : f12_canDo 1 (nI h) τ = _ := e12_canDo (k := 1) (by omega) (by omega) τ hv
  unfold f12_acts
  rw [cd, q_bnd]
  by_cases hp : σ 20 h = -1
  · have i1 : (if σ (18 + 2) h = -1 then (0 : Int32) else 1) = 0 := if_pos hp
    have i2 : (if (1 = 0 ↔ σ (1 + 19) h = -1) then (1 : Int32) else 0) = 0 := if_neg (fun q => absurd (q.mpr hp) (by omega))
    rw [i1, i2]
    exact ⟨0, σ, τ, rfl, rfl, hR0⟩
  · have i1 : (if σ (18 + 2) h = -1 then (0 : Int32) else 1) = 1 := if_neg hp
    have i2 : (if (1 = 0 ↔ σ (1 + 19) h = -1) then (1 : Int32) else 0) = 1 := if_pos ⟨fun q => absurd q (by omega), fun q => absurd q hp⟩
    rw [i1, i2, if_neg (by decide), if_neg (by decide)]
    obtain ⟨σ1, τ1, k1, k2, k3, k4, k5, k6⟩ := e_keep hU g10
    obtain ⟨sA, sB⟩ := Rel0_SA hR0 hN0
    obtain ⟨σ2, τ2, m1, m2, m3, -⟩ := e_lose (SA_keep sA k4 k5 k6) (SB_keep sB k4 k5) (h := h) (by omega) 1
    refine ⟨1, σ2, τ2, ?_, ?_, Rel0_step hR0 hN0 k3 k4 k5 k6 m3⟩
    · rw [k1, q_bnd, m1, q_bnd]
    · rw [k2, q_bnd, e12_does1 _ _ _ _ m2, q_bnd, q_bnd, if_neg (by decide)]
theorem p_tell0 : p_tell Rel0 := by
  intro p1 p2 p3 σ τ hR
  replace hR := Rel0_told hR
  unfold f12_tell f11_tell f12_tell_J47
  rw [q_let]
  generalize z_set τ 0 0 0 = τ at hR ⊢
  have hR0 := hR
  obtain ⟨⟨H, hN, hU⟩, hI, hT, hF, hC⟩ := hR
  have hN0 := hN
  obtain ⟨g1, g2, g3, g4, g5, g6, g7, g8, g9, g10⟩ := hN
  have hH := g1.1
  rcases g_house hH (σ := σ) (τ := τ) g1.2.1 g1.2.2.1 p1 with ⟨c1, c2⟩ | ⟨h, hh, rfl, c1, c2⟩
  · rw [c1, c2]; exact ⟨0, σ, τ, rfl, rfl, hR0⟩
  rw [c1, c2, q_bnd, q_bnd, i_10, i_10]
  rcases g_thing p2 σ τ with ⟨d1, d2⟩ | ⟨t, ht, rfl, d1, d2⟩
  · rw [d1, d2]; exact ⟨0, σ, τ, rfl, rfl, hR0⟩
  rw [d1, d2, q_bnd, q_bnd, i_10, i_10]
  rcases g_in p3 0 100 0 100 rfl rfl (by omega) (by omega) τ with ⟨n1 | ⟨n1, n2⟩, e⟩ | ⟨y, -, hy, rfl, n1, n2, e⟩
  · rw [if_pos n1, e]; exact ⟨0, σ, τ, rfl, rfl, hR0⟩
  · rw [if_neg n1, if_pos n2, e]; exact ⟨0, σ, τ, rfl, rfl, hR0⟩
  rw [if_neg n1, if_neg n2, e, q_bnd, i_10]
  unfold f12_acts
  rw [e12_canDo3, q_bnd, if_neg (by decide)]
  obtain ⟨σ1, τ1, k1, k2, k3, k4, k5, k6⟩ := e_keep hU g10
  obtain ⟨sA, sB⟩ := Rel0_SA hR0 hN0
  have m3 := e_deg (v := y) (SA_keep sA k4 k5 k6) (SB_keep sB k4 k5) hH hh ht hy
  refine ⟨1, _, _, ?_, ?_, Rel0_step hR0 hN0 k3 k4 k5 k6 m3⟩
  · rw [k1, q_bnd, e0_believe (by omega) ht hy, q_bnd]
  · rw [k2, q_bnd, e12_does3 (by omega) ht, q_bnd, q_bnd, if_neg (by decide)]
