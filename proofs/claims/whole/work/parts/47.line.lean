theorem b_or8 : ∀ n, n < 256 → ∀ j, j < 8 → nI n ||| z_shl 1 (nI j) = nI (n ||| 2 ^ j) := by decide +kernel
theorem b_and8 : ∀ n, n < 256 → ∀ j, j < 8 → nI n &&& (z_shl 1 (nI j) ^^^ (-1)) = nI (n &&& (255 - 2 ^ j)) := by decide +kernel
theorem b_pow8 {H : Nat} (h : H ≤ 8) : 2 ^ H ≤ 256 := Nat.pow_le_pow_right (n := 2) (by omega) h
theorem G_li_upd {H : Nat} {s m : Nat → Int32} (h : G_li H s m) (i n : Nat) (hn : n < 2 ^ H) (hi : i < H) : G_li H (upd s i (nI n)) (upd m i (nI n)) := by
  intro k hk
  rw [q_upd, q_upd]
  by_cases e : k = i
  · rw [if_pos e, if_pos e]; exact ⟨rfl, n, hn, rfl, fun q => by omega⟩
  · rw [if_neg e, if_neg e]; exact h k hk
/-- line -/
theorem p_line0 : p_line Rel0 := by
  intro p1 p2 p3 σ τ h01 hR
  have hR0 := hR
  obtain ⟨⟨H, hN, hU⟩, hI, hT, hF, hC⟩ := hR
  obtain ⟨g1, g2, g3, g4, g5, g6, g7, g8, g9, g10⟩ := hN
  have hH : H ≤ 8 := g1.1
  have eh : σ 1 0 = nI H := g1.2.1
  have ehm : z_set τ 0 0 0 0 6 = nI H := g1.2.2.1
  have q1 : ((1 : Int32) = 0) = False := by simp
  have q0 : ((0 : Int32) = 0) = True := by simp
  have no : ∀ {x : Option (Int32 × z_M)} {y : Option (Int32 × z_M)}, x = some (0, σ) → y = some (0, z_set τ 0 0 0) → ∃ (r : Int32) (σ' τ' : z_M), x = some (r, σ') ∧ y = some (r, τ') ∧ Rel0 σ' τ' := fun h1 h2 => ⟨0, σ, _, h1, h2, hR0⟩
  unfold f11_line f11_areTwo f11_areTwo_J25 f12_line
  simp only [e11_isHouse, q_let, e12_isHouse, q_bnd, eh, ehm]
  by_cases a0 : p1 < 0
  · simp only [a0, q0, q_bnd, if_true]; exact no rfl rfl
  by_cases a1 : ¬ p1 < nI H
  · simp only [a0, a1, q0, q_bnd, if_true, if_false]; exact no rfl rfl
  have a1 := Decidable.not_not.mp a1
  by_cases b0 : p2 < 0
  · simp only [a0, a1, b0, q0, q1, q_bnd, if_true, if_false]; exact no rfl rfl
  by_cases b1 : ¬ p2 < nI H
  · simp only [a0, a1, b0, b1, q0, q1, q_bnd, if_true, if_false]; exact no rfl rfl
  have b1 := Decidable.not_not.mp b1
  by_cases c0 : p1 = p2
  · simp only [a0, a1, b0, b1, c0, q0, q1, q_bnd, if_true, if_false]; exact no rfl rfl
  simp only [a0, a1, b0, b1, c0, q1, q_bnd, if_true, if_false]
  obtain ⟨i, hi, rfl⟩ := q_nat (by omega) a0 a1
  obtain ⟨j, hj, rfl⟩ := q_nat (by omega) b0 b1
  have hij : ¬ j = i := fun e => c0 (by rw [e])
  have ui := q_in (n := i) (N := 8) (by omega) (by omega)
  have uj := q_in (n := j) (N := 8) (by omega) (by omega)
  have xi := q_ix (n := i) (by omega)
  have xj := q_ix (n := j) (by omega)
  obtain ⟨e1, n1, hn1, en1, -⟩ := g3 i (by omega)
  obtain ⟨e2, n2, hn2, en2, -⟩ := g3 j (by omega)
  have hp := b_pow8 hH
  have hun : ∀ {σ' τ' : z_M}, σ' 58 1 = σ 58 1 → σ' 58 2 = 0 → τ' 0 3 = 0 → R_und H σ' τ' := fun a b c => R_und_none hU a b c
  have key : ∀ m1 m2 : Nat, m1 < 2 ^ H → m2 < 2 ^ H → Rel0 (z_set (z_set (z_set σ 58 2 0) 3 i (nI m1)) 3 j (nI m2)) (z_set (z_set (z_set (z_set τ 0 0 0) 5 i (nI m1)) 5 j (nI m2)) 0 3 0) := fun m1 m2 k1 k2 =>
    ⟨⟨H, ⟨g1, g2, G_li_upd (G_li_upd g3 i m1 k1 hi) j m2 k2 hj, g4, g5, g6, g7, g8, g9, g10⟩, hun rfl rfl rfl⟩, hI, hT, hF, hC⟩
  have r1 : z_set σ 58 2 0 (1 + 2) i = nI n1 := en1
  have r2 : ∀ v, z_set (z_set σ 58 2 0) (1 + 2) i v (1 + 2) j = nI n2 := fun v => by
    rw [q_set, if_pos rfl, q_upd, if_neg hij]; exact en2
  have r3 : z_set τ 0 0 0 5 i = nI n1 := e1.trans en1
  have r4 : ∀ v, z_set (z_set τ 0 0 0) 5 i v 5 j = nI n2 := fun v => by
    rw [q_set, if_pos rfl, q_upd, if_neg hij]; exact e2.trans en2
  have p2i : 2 ^ i < 2 ^ H := Nat.pow_lt_pow_right (by omega) hi
  have p2j : 2 ^ j < 2 ^ H := Nat.pow_lt_pow_right (by omega) hj
  rcases h01 with rfl | rfl
  · refine ⟨1, _, _, ?_, ?_, key (n1 &&& (255 - 2 ^ j)) (n2 &&& (255 - 2 ^ i)) (Nat.lt_of_le_of_lt Nat.and_le_left hn1) (Nat.lt_of_le_of_lt Nat.and_le_left hn2)⟩
    · unfold f10_forget f1_join
      simp only [q_let, q_bnd, if_true, q_chk _ ui, q_chk _ uj, xi, xj, r1, r2, b_and8 n1 (by omega) j (by omega), b_and8 n2 (by omega) i (by omega)]
    · unfold f12_line_J62 f12_line_J97
      simp only [q_let, if_true, q_chk _ ui, q_chk _ uj, xi, xj, r3, r4, b_and8 n1 (by omega) j (by omega), b_and8 n2 (by omega) i (by omega)]
  · refine ⟨1, _, _, ?_, ?_, key (n1 ||| 2 ^ j) (n2 ||| 2 ^ i) (Nat.or_lt_two_pow hn1 p2j) (Nat.or_lt_two_pow hn2 p2i)⟩
    · unfold f10_forget f1_join
      simp only [q_let, q_bnd, q1, if_false, q_chk _ ui, q_chk _ uj, xi, xj, r1, r2, b_or8 n1 (by omega) j (by omega), b_or8 n2 (by omega) i (by omega)]
    · unfold f12_line_J62 f12_line_J97
      simp only [q_let, q1, if_false, q_chk _ ui, q_chk _ uj, xi, xj, r3, r4, b_or8 n1 (by omega) j (by omega), b_or8 n2 (by omega) i (by omega)]
