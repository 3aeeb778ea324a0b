/-- the undo of memories that are alike where it looks -/
theorem R_und_cong {H : Nat} {σ τ σ' τ' : z_M} (h : R_und H σ τ) (hσ : ∀ c, 58 ≤ c → c < 96 → σ' c = σ c) (h2 : τ' 2 = τ 2) (h3 : τ' 0 3 = τ 0 3) : R_und H σ' τ' := by
  obtain ⟨nx, uc, u1, u2, u3, u4, u5, u6⟩ := h
  refine ⟨nx, uc, u1, u2, by rw [hσ 58 (by omega) (by omega)]; exact u3, by rw [hσ 58 (by omega) (by omega)]; exact u4, by rw [h3]; exact u5, fun j hj b hb => ?_⟩
  have hm : (nx + 6 - uc + j) % 6 < 6 := Nat.mod_lt _ (by omega)
  rw [hσ b (by omega) (by omega), hσ (b + 1) (by omega) (by omega), hσ (b + 2) (by omega) (by omega), hσ (b + 3) (by omega) (by omega), hσ (b + 4) (by omega) (by omega), hσ (b + 5) (by omega) (by omega), h2]
  exact u6 j hj b hb
/-- the draws' state is told -/
theorem G_be_draws {H W : Nat} {ob d th he te wa m : Nat → Int32} (h : G_be H W ob d th he te wa m) (v : Int32) : G_be H W (upd ob 5 v) d th he te wa (upd m 1 v) := by
  obtain ⟨⟨b1, b2, b3, b4⟩, c1, c2, c3, c4, c5⟩ := h
  refine ⟨⟨b1, rfl, b3, b4⟩, c1, c2, fun i hi => ?_, fun h hh => ?_, c5⟩
  · rw [q_upd, if_neg (by omega)]; exact c3 i hi
  · rw [q_upd, q_upd, q_upd, q_upd, if_neg (by omega), if_neg (by omega), if_neg (by omega), if_neg (by omega)]; exact c4 h hh
/-- a number below another -/
theorem q_lt0 {n : Nat} (h : n < 2 ^ 31) : ¬ nI n < 0 := nI_pos h
/-- state -/
theorem p_state0 : p_state Rel0 := by
  intro p1 σ τ hR
  obtain ⟨⟨H, hN, hU⟩, hI, hT, hF, hC⟩ := hR
  obtain ⟨g1, g2, g3, g4, g5, g6, g7, g8, g9, hB⟩ := hN
  obtain ⟨nx, uc, u1, u2, u3, u4, u5, u6⟩ := hU
  refine ⟨σ 18 5, z_set (z_set σ 58 2 0) 18 5 p1, z_set (z_set (z_set τ 0 0 0) 1 1 p1) 0 3 0, rfl, ?_, ⟨H, ⟨g1, g2, g3, g4, g5, g6, g7, g8, g9, G_be_draws hB p1⟩, ?_⟩, hI, hT, hF, hC⟩
  · rw [show σ 18 5 = τ 1 1 from hB.1.2.1.symm]; rfl
  · exact ⟨nx, 0, u1, by omega, u3, rfl, rfl, fun j hj => absurd hj (by omega)⟩
/-- end -/
theorem p_end0 : p_end Rel0 := by
  intro p1 σ τ hR
  obtain ⟨hG, hI, ⟨n, t1, t2, t3, t4⟩, hF, hC⟩ := hR
  by_cases h0 : p1 < 0
  · refine ⟨0, σ, z_set τ 0 0 0, ?_, ?_, hG, hI, ⟨n, t1, t2, t3, t4⟩, hF, hC⟩
    · unfold f11_end; rw [if_pos h0]
    · unfold f12_end; rw [q_let, e12_isIn, if_pos h0]; rfl
  · by_cases h1 : σ 96 1 < p1
    · have h2 : z_set τ 0 0 0 0 14 < p1 := by show τ 0 14 < p1; rw [t3, ← t2]; exact h1
      refine ⟨0, σ, z_set τ 0 0 0, ?_, ?_, hG, hI, ⟨n, t1, t2, t3, t4⟩, hF, hC⟩
      · unfold f11_end; rw [if_neg h0, if_pos h1]
      · unfold f12_end; rw [q_let, e12_isIn, if_neg h0, if_pos h2]; rfl
    · have h2 : ¬ z_set τ 0 0 0 0 14 < p1 := by show ¬ τ 0 14 < p1; rw [t3, ← t2]; exact h1
      obtain ⟨j, hj, rfl⟩ := q_natle (n := n) h0 (by rw [← t2]; exact h1)
      obtain ⟨H, hN, hU⟩ := hG
      refine ⟨1, z_set σ 96 1 (nI j), z_set (z_set τ 0 0 0) 0 14 (nI j), ?_, ?_, ⟨H, hN, R_und_cong hU (fun c h1 h2 => by rw [q_set, if_neg (by omega)]) rfl rfl⟩, hI, ⟨j, by omega, rfl, rfl, fun k hk => t4 k (by omega)⟩, hF, hC⟩
      · unfold f11_end; rw [if_neg h0, if_neg h1]; rfl
      · unfold f12_end; rw [q_let, e12_isIn, if_neg h0, if_neg h2]; rfl
