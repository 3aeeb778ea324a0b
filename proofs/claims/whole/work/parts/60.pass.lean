/-! a week: the plan, frost, bees, the inspector -/
theorem e_follow {s b H W i n : Nat} {σ τ : z_M} (hA : SA s b σ τ) (hB : SB b H W σ τ) (hH : H ≤ 8) (hi : i < n) (hn : n ≤ 16) (hl : ∀ i, i < n → (τ 19 (5 * i) = σ 14 (5 * i) ∧ τ 19 (5 * i + 2) = σ 14 (5 * i + 2) ∧ τ 19 (5 * i + 3) = σ 14 (5 * i + 3) ∧ τ 19 (5 * i + 4) = σ 14 (5 * i + 4)) ∧ (∃ w, w ≤ 999 ∧ σ 14 (5 * i) = nI w) ∧ (∃ h, h < H ∧ σ 14 (5 * i + 2) = nI h) ∧ ((σ 14 (5 * i + 1) = 22 ∧ τ 19 (5 * i + 1) = 0 ∧ (∃ t, t < 8 ∧ σ 14 (5 * i + 3) = nI t) ∧ ∃ t, t ≤ 9 ∧ σ 14 (5 * i + 4) = nI t) ∨ (σ 14 (5 * i + 1) = 25 ∧ τ 19 (5 * i + 1) = 1) ∨ (σ 14 (5 * i + 1) = 2 ∧ τ 19 (5 * i + 1) = 2 ∧ ∃ t, 1 ≤ t ∧ t ≤ 99 ∧ σ 14 (5 * i + 3) = nI t) ∨ (σ 14 (5 * i + 1) = 26 ∧ τ 19 (5 * i + 1) = 3 ∧ (∃ t, t < 8 ∧ σ 14 (5 * i + 3) = nI t) ∧ ∃ t, t ≤ 100 ∧ σ 14 (5 * i + 4) = nI t))) : ∃ σ' τ', f7_follow s (nI i) σ = some ((), σ') ∧ SP s b H W σ τ σ' τ' ∧ ((f12_canDo (τ 19 (5 * i + 1)) (τ 19 (5 * i + 2)) τ = some (0, τ) ∧ τ' = τ) ∨ (f12_canDo (τ 19 (5 * i + 1)) (τ 19 (5 * i + 2)) τ = some (1, τ) ∧ f12_does (τ 19 (5 * i + 1)) (τ 19 (5 * i + 2)) (τ 19 (5 * i + 3)) (τ 19 (5 * i + 4)) τ = some ((), τ'))) := by
  obtain ⟨sb, hb, -⟩ := SA_sb hA
  obtain ⟨⟨m0, m2, m3, m4⟩, -, ⟨h, hh, eh⟩, hk⟩ := hl i hi
  have hv := (hB.2.2.2.2.1 h (by omega)).1
  have a1 : f9_at 13 (nI i) 1 σ = some (σ 14 (5 * i + 1), σ) := by rw [l_1, e9_at (N := 80) rfl (by omega) (by omega)]
  have a2 : f9_at 13 (nI i) 2 σ = some (nI h, σ) := by rw [l_2, e9_at (N := 80) rfl (by omega) (by omega)]; rw [← eh]
  have a3 : f9_at 13 (nI i) 3 σ = some (σ 14 (5 * i + 3), σ) := by rw [l_3, e9_at (N := 80) rfl (by omega) (by omega)]
  have a4 : f9_at 13 (nI i) 4 σ = some (σ 14 (5 * i + 4), σ) := by rw [l_4, e9_at (N := 80) rfl (by omega) (by omega)]
  unfold f7_follow f7_follow_J108 f7_follow_J128
  rw [a1, q_bnd, a2, q_bnd, a3, q_bnd, a4, q_bnd, sb, e0_hasPot (by omega), q_bnd, m2, m3, m4, eh]
  rcases hk with ⟨k1, k2, ⟨t, ht, et⟩, y, hy, ey⟩ | ⟨k1, k2⟩ | ⟨k1, k2, t, ht1, ht, et⟩ | ⟨k1, k2, ⟨t, ht, et⟩, y, hy, ey⟩
  · have cd : f12_canDo 0 (nI h) τ = _ := e12_canDo (k := 0) (by omega) (by omega) τ hv
    rw [k1, k2, if_neg (by decide), if_pos rfl, et, ey, cd]
    by_cases hp : σ (b + 2) h = -1
    · obtain ⟨σ2, τ2, x1, x2, x3, x4, -⟩ := e_put (x := 10) hA hB hH hh ht (by omega) (by omega) hy 0
      rw [e0_putPot (by omega), q_bnd] at x1
      refine ⟨σ2, τ2, ?_, ⟨x3, x4⟩, .inr ⟨?_, e12_does0 _ _ _ _ x2⟩⟩
      · rw [if_pos hp, i_00]
        unfold f7_plant
        rw [sb, l_10, e0_putPot (by omega), q_bnd, x1, q_bnd, q_bnd]
      · rw [if_pos ⟨fun _ => hp, fun _ => rfl⟩]
    · refine ⟨σ, τ, ?_, SP_refl hA hB, .inl ⟨?_, rfl⟩⟩
      · rw [if_neg hp, i_10, if_neg (by decide), if_neg (by decide)]
      · rw [if_neg (fun q => hp (q.mp rfl))]
  · have cd : f12_canDo 1 (nI h) τ = _ := e12_canDo (k := 1) (by omega) (by omega) τ hv
    rw [k1, k2, if_neg (by decide), if_neg (by decide), if_neg (by decide), if_pos rfl, cd]
    by_cases hp : σ (b + 2) h = -1
    · refine ⟨σ, τ, ?_, SP_refl hA hB, .inl ⟨?_, rfl⟩⟩
      · rw [if_pos hp, i_00]
      · rw [if_neg (fun q => absurd (q.mpr hp) (by omega))]
    · obtain ⟨σ2, τ2, x1, x2, x3, x4, -⟩ := e_lose (h := h) hA hB (by omega) 1
      refine ⟨σ2, τ2, ?_, ⟨x3, x4⟩, .inr ⟨?_, e12_does1 _ _ _ _ x2⟩⟩
      · rw [if_neg hp, i_10, x1, q_bnd]
      · rw [if_pos ⟨fun q => absurd q (by omega), fun q => absurd q hp⟩]
  · have cd : f12_canDo 2 (nI h) τ = _ := e12_canDo (k := 2) (by omega) (by omega) τ hv
    rw [k1, k2, if_neg (by decide), if_neg (by decide), if_pos rfl, cd, et]
    by_cases hp : σ (b + 2) h = -1
    · refine ⟨σ, τ, ?_, SP_refl hA hB, .inl ⟨?_, rfl⟩⟩
      · rw [if_pos hp, i_00, if_neg (by decide)]
      · rw [if_neg (fun q => absurd (q.mpr hp) (by omega))]
    · obtain ⟨σ2, τ2, w, x1, x2, x3, x4, x5⟩ := e_pour (h := h) hA hB (by omega) hp ht
      subst x3
      refine ⟨σ2, _, ?_, ⟨x4, by rw [x5 b (by omega)], by rw [x5 b (by omega)]⟩, .inr ⟨?_, e12_does2 (by omega) _ _ _ _ x2⟩⟩
      · rw [if_neg hp, i_10, x1, q_bnd]
      · rw [if_pos ⟨fun q => absurd q (by omega), fun q => absurd q hp⟩]
  · rw [k1, k2, if_pos rfl, et, ey, e12_canDo3]
    refine ⟨_, _, ?_, SP_deg hA hB hH hh ht hy, .inr ⟨rfl, e12_does3 (by omega) ht _ _⟩⟩
    rw [e0_believe (by omega) ht hy, q_bnd]
theorem e_passL2 {s b H W n : Nat} : ∀ (r k f g : Nat) (σ τ : z_M), k + r = n → r < f → r < g → n ≤ 16 → SA s b σ τ → SB b H W σ τ → SG H σ τ → σ 13 2 = nI n → ∃ σ' τ', f7_pass_L2 f s (nI k) σ = f7_pass_J49 s σ' ∧ f12_goesBy_L2 g (nI k) τ = f12_goesBy_J94 τ' ∧ SP s b H W σ τ σ' τ'
  | 0, k, f, g, σ, τ, h1, h2, h3, hn, hA, hB, hG, e13 => by
    obtain ⟨f, rfl⟩ : ∃ m, f = m + 1 := ⟨f - 1, by omega⟩
    obtain ⟨g, rfl⟩ : ∃ m, g = m + 1 := ⟨g - 1, by omega⟩
    obtain ⟨n', -, p1, p2, -⟩ := hG.2.2.2.2
    have e40 : τ 0 40 = nI n := by rw [p2, ← p1]; exact e13
    refine ⟨σ, τ, ?_, ?_, SP_refl hA hB⟩
    · unfold f7_pass_L2
      rw [e13, if_neg (nI_nlt (by omega) (by omega))]
    · unfold f12_goesBy_L2
      rw [e40, if_neg (nI_nlt (by omega) (by omega))]
  | r + 1, k, f, g, σ, τ, h1, h2, h3, hn, hA, hB, hG, e13 => by
    obtain ⟨f, rfl⟩ : ∃ m, f = m + 1 := ⟨f - 1, by omega⟩
    obtain ⟨g, rfl⟩ : ∃ m, g = m + 1 := ⟨g - 1, by omega⟩
    obtain ⟨sb, hb, -⟩ := SA_sb hA
    have hG' := hG
    obtain ⟨n', hn', p1, p2, hl⟩ := hG'.2.2.2.2
    have hnn : n' = n := by
      rw [e13, nI_eq (by omega) (by omega)] at p1; exact p1.symm
    subst hnn
    have ih := fun σ τ => e_passL2 (s := s) (b := b) (H := H) (W := W) r (k + 1) f g σ τ (by omega) (by omega) (by omega) hn
    have hw : τ 1 0 = σ b 6 := hB.1.1
    have m0 : τ 19 (5 * k) = σ 14 (5 * k) := (hl k (by omega)).1.1
    have a0 : f9_at 13 (nI k) 0 σ = some (σ 14 (5 * k), σ) := by
      rw [l_0, e9_at (N := 80) rfl (by omega) (by omega)]; rfl
    have i0 : (5 : Int32) * nI k = nI (5 * k) := by rw [l_5, pk_mul]
    have i1 : nI (5 * k) + 1 = nI (5 * k + 1) := nI_1 _
    have i2 : nI (5 * k) + 2 = nI (5 * k + 2) := by rw [l_2, nI_add]
    have i3 : nI (5 * k) + 3 = nI (5 * k + 3) := by rw [l_3, nI_add]
    have i4 : nI (5 * k) + 4 = nI (5 * k + 4) := by rw [l_4, nI_add]
    unfold f7_pass_L2 f12_goesBy_L2
    rw [e13, if_pos (nI_lt (by omega) (by omega)), a0, q_bnd, sb, p2, if_pos (nI_lt (by omega) (by omega)), i0, i1, i2, i3, i4, k_cin _ (by omega) (by omega), q_chk _ (by decide), k_cin _ (by omega) (by omega), k_cin _ (by omega) (by omega), q_ix (show 5 * k < 2 ^ 31 by omega), q_ix (show 5 * k + 1 < 2 ^ 31 by omega), q_ix (show 5 * k + 2 < 2 ^ 31 by omega), q_ix (show 5 * k + 3 < 2 ^ 31 by omega), q_ix (show 5 * k + 4 < 2 ^ 31 by omega), show z_ix 0 = 0 from rfl, m0, hw, nI_1]
    by_cases hq : σ 14 (5 * k) = σ b 6
    · rw [if_pos hq, if_pos hq]
      obtain ⟨σ1, τ1, x1, x2, x3⟩ := e_follow (i := k) hA hB hG.1.1 (by omega) hn' hl
      have hG1 := SG_fr hb hG x2.1.2.2
      have e13' : σ1 13 2 = nI n' := by rw [x2.1.2.2.1 13 (by omega) (by omega) (by omega) (by omega)]; exact e13
      obtain ⟨σ', τ', y1, y2, y3⟩ := ih σ1 τ1 x2.1.1 x2.1.2.1 hG1 e13'
      refine ⟨σ', τ', ?_, ?_, SP_trans x2 y3⟩
      · rw [x1, q_bnd]; exact y1
      · rcases x3 with ⟨x3, x4⟩ | ⟨x3, x4⟩
        · subst x4
          rw [x3, q_bnd, i_00]; exact y2
        · rw [x3, q_bnd, i_10, k_cin _ (by omega) (by omega), k_cin _ (by omega) (by omega), k_cin _ (by omega) (by omega), k_cin _ (by omega) (by omega), x4, q_bnd]; exact y2
    · rw [if_neg hq, if_neg hq]
      exact ih σ τ hA hB hG e13
theorem e_passL51 {s b H W : Nat} : ∀ (r k f g : Nat) (σ τ : z_M), k + r = H → r < f → r < g → SA s b σ τ → SB b H W σ τ → SG H σ τ → ∃ σ' τ', f7_pass_L51 f s (nI k) σ = f7_pass_J73 s σ' ∧ f12_goesBy_L96 g (nI k) τ = f12_goesBy_J115 τ' ∧ SP s b H W σ τ σ' τ'
  | 0, k, f, g, σ, τ, h1, h2, h3, hA, hB, hG => by
    obtain ⟨f, rfl⟩ : ∃ m, f = m + 1 := ⟨f - 1, by omega⟩
    obtain ⟨g, rfl⟩ : ∃ m, g = m + 1 := ⟨g - 1, by omega⟩
    have hH := hG.1.1
    refine ⟨σ, τ, ?_, ?_, SP_refl hA hB⟩
    · unfold f7_pass_L51
      rw [hG.1.2.1, if_neg (nI_nlt (by omega) (by omega))]
    · unfold f12_goesBy_L96
      rw [hG.1.2.2.1, if_neg (nI_nlt (by omega) (by omega))]
  | r + 1, k, f, g, σ, τ, h1, h2, h3, hA, hB, hG => by
    obtain ⟨f, rfl⟩ : ∃ m, f = m + 1 := ⟨f - 1, by omega⟩
    obtain ⟨g, rfl⟩ : ∃ m, g = m + 1 := ⟨g - 1, by omega⟩
    obtain ⟨sb, hb, -⟩ := SA_sb hA
    have hH := hG.1.1
    obtain ⟨σ1, τ1, x1, x2, x3⟩ := e_reas (h := k) hA hB hG (by omega)
    obtain ⟨σ', τ', y1, y2, y3⟩ := e_passL51 r (k + 1) f g σ1 τ1 (by omega) (by omega) (by omega) x3.1.1 x3.1.2.1 (SG_fr hb hG x3.1.2.2)
    refine ⟨σ', τ', ?_, ?_, SP_trans x3 y3⟩
    · unfold f7_pass_L51
      rw [hG.1.2.1, if_pos (nI_lt (by omega) (by omega)), x1, q_bnd, nI_1]; exact y1
    · unfold f12_goesBy_L96
      rw [hG.1.2.2.1, if_pos (nI_lt (by omega) (by omega)), x2, q_bnd, nI_1]; exact y2
theorem e_passL75 {s b H W : Nat} : ∀ (r k f g : Nat) (σ τ : z_M), k + r = H → r < f → r < g → SA s b σ τ → SB b H W σ τ → SG H σ τ → ∃ σ' τ', f7_pass_L75 f s (nI k) σ = f7_pass_J116 s σ' ∧ f12_goesBy_L117 g (nI k) τ = f12_goesBy_J145 τ' ∧ SP s b H W σ τ σ' τ'
  | 0, k, f, g, σ, τ, h1, h2, h3, hA, hB, hG => by
    obtain ⟨f, rfl⟩ : ∃ m, f = m + 1 := ⟨f - 1, by omega⟩
    obtain ⟨g, rfl⟩ : ∃ m, g = m + 1 := ⟨g - 1, by omega⟩
    have hH := hG.1.1
    refine ⟨σ, τ, ?_, ?_, SP_refl hA hB⟩
    · unfold f7_pass_L75
      rw [hG.1.2.1, if_neg (nI_nlt (by omega) (by omega))]
    · unfold f12_goesBy_L117
      rw [hG.1.2.2.1, if_neg (nI_nlt (by omega) (by omega))]
  | r + 1, k, f, g, σ, τ, h1, h2, h3, hA, hB, hG => by
    obtain ⟨f, rfl⟩ : ∃ m, f = m + 1 := ⟨f - 1, by omega⟩
    obtain ⟨g, rfl⟩ : ∃ m, g = m + 1 := ⟨g - 1, by omega⟩
    obtain ⟨sb, hb, -⟩ := SA_sb hA
    have hH := hG.1.1
    have hv := (hB.2.2.2.2.1 k (by omega)).1
    unfold f7_pass_L75 f12_goesBy_L117
    rw [hG.1.2.1, if_pos (nI_lt (by omega) (by omega)), sb, e0_hasPot (by omega), q_bnd, hG.1.2.2.1, if_pos (nI_lt (by omega) (by omega)), e12_potOf' (by omega) τ hv, q_bnd, nI_1]
    by_cases hp : σ (b + 2) k = -1
    · rw [if_pos hp, i_00, if_pos hp]
      exact e_passL75 r (k + 1) f g σ τ (by omega) (by omega) (by omega) hA hB hG
    · rw [if_neg hp, i_10, if_neg hp, e0_sures (by omega), q_bnd]
      obtain ⟨σ1, τ1, x1, x2, x3⟩ := e_growP (h := k) hA hB hG (by omega) hp
      obtain ⟨σ', τ', y1, y2, y3⟩ := e_passL75 r (k + 1) f g σ1 τ1 (by omega) (by omega) (by omega) x3.1.1 x3.1.2.1 (SG_fr hb hG x3.1.2.2)
      refine ⟨σ', τ', ?_, ?_, SP_trans x3 y3⟩
      · rw [x1, q_bnd]; exact y1
      · rw [x2, q_bnd]; exact y2
/-- a draw -/
theorem e_draw {H W : Nat} {σ τ : z_M} (hA : SA 50 18 σ τ) (hB : SB 18 H W σ τ) (m : Int32) (hm : 0 < m) (hm0 : ¬ m = 0) : ∃ x σ' τ', f7_draw 50 m σ = some (x, σ') ∧ f12_draw m τ = some (x, τ') ∧ SP 50 18 H W σ τ σ' τ' ∧ (∀ c, c ≠ 18 → σ' c = σ c) ∧ (∀ c, c ≠ 1 → τ' c = τ c) ∧ ∀ k, k ≠ 1 → τ' 1 k = τ 1 k := by
  have hd : τ 1 1 = σ 18 5 := hB.1.2.1
  refine ⟨z_rem (z_ushr (1664525 * σ 18 5 + 1013904223) 8) m, z_set σ 18 5 (1664525 * σ 18 5 + 1013904223), z_set τ 1 1 (1664525 * σ 18 5 + 1013904223), ?_, ?_, ⟨⟨SA_cong hA ?_ ?_ ?_ ?_ ?_, ?_, fun c a1 a2 a3 a4 => ?_, fun q => ⟨?_, ?_⟩, fun c a1 a2 a3 a4 a5 => ?_, fun k a => ?_⟩, ?_, ?_⟩, fun c a => s_ne a, fun c a => s_ne a, fun k a => s_kn a⟩
  · unfold f7_draw
    rw [show z_sb 50 = 18 from rfl, q_let, if_pos hm, q_chk _ (by simp [hm0]), s_eq]
  · unfold f12_draw
    rw [q_chk _ (by decide), q_chk _ (by decide), show z_ix 1 = 1 from rfl, q_let, q_chk _ (by decide), q_chk _ (by simp [hm0]), s_eq, hd]
  · exact s_ne (by omega)
  · exact s_ne (by omega)
  · exact s_ne (by omega)
  · rw [s_ne (by omega)]
  · exact s_ne (by omega)
  · have g := G_be_draws hB (1664525 * σ 18 5 + 1013904223)
    unfold SB
    simp (disch := omega) only [s_ne, s_up]
    exact g
  · exact s_ne (by omega)
  · exact s_ne (by omega)
  · exact s_ne (by omega)
  · exact s_ne (by omega)
  · rw [s_ne (by omega)]
  · rw [s_kn (by omega)]
  · rw [s_kn (by omega)]
theorem e_freezeL {H W : Nat} : ∀ (r k f g : Nat) (σ τ : z_M), k + r = H → r < f → r < g → SA 50 18 σ τ → SB 18 H W σ τ → SG H σ τ → ∃ σ' τ', f7_freeze_L20 f 50 (nI k) σ = some ((), σ') ∧ f12_freezes_L31 g (nI k) τ = some ((), τ') ∧ SP 50 18 H W σ τ σ' τ'
  | 0, k, f, g, σ, τ, h1, h2, h3, hA, hB, hG => by
    obtain ⟨f, rfl⟩ : ∃ m, f = m + 1 := ⟨f - 1, by omega⟩
    obtain ⟨g, rfl⟩ : ∃ m, g = m + 1 := ⟨g - 1, by omega⟩
    have hH := hG.1.1
    refine ⟨σ, τ, ?_, ?_, SP_refl hA hB⟩
    · unfold f7_freeze_L20
      rw [hG.1.2.1, if_neg (nI_nlt (by omega) (by omega))]
    · unfold f12_freezes_L31
      rw [hG.1.2.2.1, if_neg (nI_nlt (by omega) (by omega))]
  | r + 1, k, f, g, σ, τ, h1, h2, h3, hA, hB, hG => by
    obtain ⟨f, rfl⟩ : ∃ m, f = m + 1 := ⟨f - 1, by omega⟩
    obtain ⟨g, rfl⟩ : ∃ m, g = m + 1 := ⟨g - 1, by omega⟩
    have hH := hG.1.1
    have hv := hB.2.2.2.2.1 k (by omega)
    have ih := fun σ τ => e_freezeL (H := H) (W := W) r (k + 1) f g σ τ (by omega) (by omega) (by omega)
    unfold f7_freeze_L20 f12_freezes_L31
    rw [hG.1.2.1, if_pos (nI_lt (by omega) (by omega)), show z_sb 50 = 18 from rfl, e0_hasPot (by omega), q_bnd, hG.1.2.2.1, if_pos (nI_lt (by omega) (by omega)), e12_potOf' (by omega) τ hv.1, q_bnd, nI_1, l_84, nI_add, q_ix (show 84 + k < 2 ^ 31 by omega), q_ix (show k < 2 ^ 31 by omega)]
    by_cases hp : σ (18 + 2) k = -1
    · rw [if_pos hp, i_00, if_pos hp]
      exact ih σ τ hA hB hG
    · rw [if_neg hp, i_10, if_neg hp]
      obtain ⟨x, σ1, τ1, x1, x2, x3, x4, x5, x6⟩ := e_draw hA hB 10 (by decide) (by decide)
      have hte : τ1 1 (84 + k) = σ1 (18 + 4) k := by
        rw [x6 _ (by omega), x4 _ (by omega)]
        rcases hv.2 with q | ⟨-, -, -, -, -, -, r7, -⟩
        · exact absurd q.1 hp
        · exact r7
      rw [x1, x2, q_bnd, q_bnd, k_cin _ (by omega) (by omega), k_cin _ (by omega) (by omega), hte]
      have hG1 := SG_fr (.inl rfl) hG x3.1.2.2
      by_cases hc : x < σ1 (18 + 4) k
      · rw [if_pos hc, if_pos hc]
        obtain ⟨σ2, τ2, y1, y2, y3, y4, -⟩ := e_lose (h := k) x3.1.1 x3.1.2.1 (by omega) 3
        have p2 : SP 50 18 H W σ1 τ1 σ2 τ2 := ⟨y3, y4⟩
        obtain ⟨σ', τ', z1, z2, z3⟩ := ih σ2 τ2 y3.1 y3.2.1 (SG_fr (.inl rfl) hG1 y3.2.2)
        refine ⟨σ', τ', ?_, ?_, SP_trans x3 (SP_trans p2 z3)⟩
        · rw [y1, q_bnd]; exact z1
        · rw [y2, q_bnd]; exact z2
      · rw [if_neg hc, if_neg hc]
        obtain ⟨σ', τ', z1, z2, z3⟩ := ih σ1 τ1 x3.1.1 x3.1.2.1 hG1
        exact ⟨σ', τ', z1, z2, SP_trans x3 z3⟩
theorem e_freeze {s b H W : Nat} {σ τ : z_M} (hA : SA s b σ τ) (hB : SB b H W σ τ) (hG : SG H σ τ) : ∃ σ' τ', f7_pass_J116 s σ = f7_pass_J137 s σ' ∧ f12_freezes τ = some ((), τ') ∧ SP s b H W σ τ σ' τ' := by
  have hH := hG.1.1
  rcases hA with ⟨rfl, rfl, a3, a4, a5⟩ | ⟨rfl, rfl, a3, a4⟩
  · have hA : SA 50 18 σ τ := .inl ⟨rfl, rfl, a3, a4, a5⟩
    obtain ⟨fr, hfr, efr⟩ := hG.1.2.2.2.2.2.1
    have efm : τ 0 8 = nI fr := by rw [hG.1.2.2.2.2.2.2.1]; exact efr
    unfold f7_pass_J116 f12_freezes
    rw [a3, i_10, efr, a4, i_00, efm]
    by_cases h0 : fr = 0
    · rw [if_neg (k_ngt (by omega)), if_pos (k_z h0)]
      exact ⟨σ, τ, rfl, rfl, SP_refl hA hB⟩
    · rw [if_pos (k_gt (by omega) (by omega)), if_neg (k_nz h0 (by omega))]
      unfold f7_freeze
      obtain ⟨x, σ1, τ1, x1, x2, x3, x4, x5, x6⟩ := e_draw hA hB 1000 (by decide) (by decide)
      have e1 : σ1 1 2 = nI fr := by rw [x4 1 (by omega)]; exact efr
      have e2 : τ1 0 8 = nI fr := by rw [x5 0 (by omega)]; exact efm
      rw [x1, x2, q_bnd, q_bnd, e1, e2]
      by_cases hc : x < nI fr
      · rw [if_pos hc, if_pos hc]
        obtain ⟨σ', τ', y1, y2, y3⟩ := e_freezeL H 0 z_fu z_fu σ1 τ1 (by omega) (show H < 1000 by omega) (show H < 1000 by omega) x3.1.1 x3.1.2.1 (SG_fr (.inl rfl) hG x3.1.2.2)
        have y1 : f7_freeze_L20 z_fu 50 0 σ1 = some ((), σ') := y1
        have y2 : f12_freezes_L31 z_fu 0 τ1 = some ((), τ') := y2
        rw [y1, y2, q_bnd]
        exact ⟨σ', τ', rfl, rfl, SP_trans x3 y3⟩
      · rw [if_neg hc, if_neg hc, q_bnd]
        exact ⟨σ1, τ1, rfl, rfl, x3⟩
  · unfold f7_pass_J116 f12_freezes
    rw [a3, i_00, a4, i_10]
    exact ⟨σ, τ, rfl, rfl, SP_refl (.inr ⟨rfl, rfl, a3, a4⟩) hB⟩
/-- where a bee can go -/
theorem e_empty {H W h l : Nat} {σ τ : z_M} (hB : SB 18 H W σ τ) (hG : SG H σ τ) (hh : h < 8) (hl : l < 256) (e1 : σ 3 h = nI l) (e2 : τ 5 h = nI l) : ∀ (r k f g : Nat), k + r = H → r < f → r < g → (f7_carry_L2 f 50 (nI h) (nI k) σ = some ((), σ) ∧ f12_emptyBy_L2 g (nI h) (nI k) τ = some (-1, τ)) ∨ ∃ o, o < H ∧ σ 20 o = -1 ∧ f7_carry_L2 f 50 (nI h) (nI k) σ = f7_carry_J40 50 (nI h) (nI o) σ ∧ f12_emptyBy_L2 g (nI h) (nI k) τ = some (nI o, τ)
  | 0, k, f, g, h1, h2, h3 => by
    obtain ⟨f, rfl⟩ : ∃ m, f = m + 1 := ⟨f - 1, by omega⟩
    obtain ⟨g, rfl⟩ : ∃ m, g = m + 1 := ⟨g - 1, by omega⟩
    have hH := hG.1.1
    left
    unfold f7_carry_L2 f12_emptyBy_L2
    rw [hG.1.2.1, if_neg (nI_nlt (by omega) (by omega)), hG.1.2.2.1, if_neg (nI_nlt (by omega) (by omega))]
    exact ⟨rfl, rfl⟩
  | r + 1, k, f, g, h1, h2, h3 => by
    obtain ⟨f, rfl⟩ : ∃ m, f = m + 1 := ⟨f - 1, by omega⟩
    obtain ⟨g, rfl⟩ : ∃ m, g = m + 1 := ⟨g - 1, by omega⟩
    have hH := hG.1.1
    have hv := (hB.2.2.2.2.1 k (by omega)).1
    have ih := e_empty hB hG hh hl e1 e2 r (k + 1) f g (by omega) (by omega) (by omega)
    unfold f7_carry_L2 f12_emptyBy_L2
    rw [hG.1.2.1, if_pos (nI_lt (by omega) (by omega)), hG.1.2.2.1, if_pos (nI_lt (by omega) (by omega)), k_cin _ hh (by omega), k_cin _ hh (by omega), q_ix (by omega), e1, e2, k_bit l hl k (by omega), show z_sb 50 = 18 from rfl, e0_hasPot (by omega), q_bnd, e12_potOf' (by omega) τ hv, q_bnd, nI_1]
    by_cases hb : l.testBit k = true
    · rw [if_pos hb, i_10, if_pos rfl]
      by_cases hp : σ (18 + 2) k = -1
      · rw [if_pos hp, i_00, if_pos hp]
        exact .inr ⟨k, by omega, hp, rfl, rfl⟩
      · rw [if_neg hp, i_10, if_neg hp]
        exact ih
    · rw [if_neg hb, i_00, if_neg (by decide)]
      exact ih
theorem e_swarm {H W h : Nat} {σ τ : z_M} (hA : SA 50 18 σ τ) (hB : SB 18 H W σ τ) (hG : SG H σ τ) (hh : h < H) (hp : σ 20 h ≠ -1) : ∃ σ' τ', (z_bnd (f7_draw 50 1000 σ) fun r1 σ2 => if r1 < σ2 1 3 then f7_carry 50 (nI h) σ2 else some ((), σ2)) = some ((), σ') ∧ f12_swarms (nI h) τ = some ((), τ') ∧ SP 50 18 H W σ τ σ' τ' ∧ ∀ k, σ 20 k ≠ -1 → σ' 20 k ≠ -1 := by
  have hH := hG.1.1
  obtain ⟨be, hbe, ebe⟩ := hG.1.2.2.2.2.2.2.2.1
  have ebm : τ 0 9 = nI be := by rw [hG.1.2.2.2.2.2.2.2.2]; exact ebe
  obtain ⟨x, σ1, τ1, x1, x2, x3, x4, x5, x6⟩ := e_draw hA hB 1000 (by decide) (by decide)
  have hG1 := SG_fr (.inl rfl) hG x3.1.2.2
  have hA1 := x3.1.1
  have hB1 := x3.1.2.1
  have e1 : σ1 1 3 = nI be := by rw [x4 1 (by omega)]; exact ebe
  have e2 : τ1 0 9 = nI be := by rw [x5 0 (by omega)]; exact ebm
  have hp1 : σ1 20 h ≠ -1 := by rw [x4 20 (by omega)]; exact hp
  unfold f12_swarms
  rw [x1, x2, q_bnd, q_bnd, e1, e2]
  by_cases hc : x < nI be
  · rw [if_pos hc, if_pos hc]
    obtain ⟨l1, l, l2, l3⟩ := G_li_256 hH hG1.2.1 h (by omega)
    have hv := hB1.2.2.2.2.1 h (by omega)
    rcases hv.2 with q | ⟨r1, ⟨t, ht, et⟩, r3, ⟨y, hy, ey⟩, r5, r6, r7, r8⟩
    · exact absurd q.1 hp1
    obtain ⟨f, g, o1, o2, o3, o4, o5⟩ := e_obs (b := 18) (.inl rfl) hB1 (h := h) (by omega) hp1 (G_li_256 hH hG1.2.1) (nI (pc (sN (σ1 (18 + 1)) h)))
    have lg : LG (z_fl σ1 48 0 8 f) (z_fl τ1 20 0 8 g) := LG_cong hG1.2.2.2.1 (fun c a b => fl_ne (by omega)) (fun c a b => fl_ne (by omega))
    obtain ⟨v, σ2, τ2, v1, v2, v3, v4, v5⟩ := e_seed lg (fun k hk => by
      rw [fl_in (by omega) (by omega), fl_in (by omega) (by omega), Nat.sub_zero]
      by_cases k6 : k = 6
      · rw [k6, o4, o5]
      · exact o3 k hk k6)
    have f2 : ∀ c, c ≠ 48 → c ≠ 49 → σ2 c = σ1 c := fun c a b => (v4 c b).trans (fl_ne a)
    have g2 : ∀ c, c ≠ 20 → c ≠ 21 → τ2 c = τ1 c := fun c a b => (v5 c b).trans (fl_ne a)
    have t68 : τ2 1 (68 + h) = nI t + 1 := by rw [g2 1 (by omega) (by omega), hv.1, et]
    have t84 : τ2 1 (84 + h) = nI y := by rw [g2 1 (by omega) (by omega), r7, ey]
    have s20 : σ2 20 h = nI t := by rw [f2 20 (by omega) (by omega)]; exact et
    have s22 : σ2 22 h = nI y := by rw [f2 22 (by omega) (by omega)]; exact ey
    have i84 : (84 : Int32) + nI h = nI (84 + h) := by rw [l_84, nI_add]
    rcases e_empty hB1 hG1 (h := h) (by omega) l2 l3 (l1.trans l3) H 0 z_fu z_fu (by omega) (show H < 1000 by omega) (show H < 1000 by omega) with ⟨w1, w2⟩ | ⟨o, ho, hop, w1, w2⟩
    · have w1 : f7_carry 50 (nI h) σ1 = some ((), σ1) := w1
      have w2 : f12_emptyBy (nI h) τ1 = some (-1, τ1) := w2
      rw [w1, w2, q_bnd, o2, q_bnd, v3, q_bnd, if_pos rfl]
      exact ⟨σ1, τ2, rfl, rfl, SP_trans x3 (SP_scr hA1 hB1 (fun _ _ _ => rfl) g2), fun k q => by rw [x4 20 (by omega)]; exact q⟩
    · have w1 : f7_carry 50 (nI h) σ1 = f7_carry_J40 50 (nI h) (nI o) σ1 := w1
      have w2 : f12_emptyBy (nI h) τ1 = some (nI o, τ1) := w2
      have hoh : o ≠ h := fun q => hp1 (by rw [← q]; exact hop)
      rw [w1, w2, q_bnd, o2, q_bnd, v3, q_bnd, if_neg (q_neg (by omega))]
      unfold f7_carry_J40
      rw [show z_sb 50 = 18 from rfl, e0_sures (by omega), q_bnd, o1, q_bnd, v2, q_bnd]
      have p2 := SP_scr (H := H) (W := W) hA1 hB1 f2 g2
      by_cases hv0 : 0 < v
      · rw [if_pos (k_gt hv0 (by omega)), if_pos (k_gt hv0 (by omega)), e12_potOf' (by omega) τ2 t68, q_bnd, i84, k_cin _ (by omega) (by omega), q_ix (show 84 + h < 2 ^ 31 by omega), t84, k_cin _ (by omega) (by omega), k_cin _ (by omega) (by omega), q_ix (show h < 2 ^ 31 by omega), show σ2 (18 + 2) h = nI t from s20, show σ2 (18 + 4) h = nI y from s22]
        obtain ⟨σ3, τ3, y1, y2, y3, y4, y5⟩ := e_put (h := o) (t := t) (x := v) (y := y) p2.1.1 p2.1.2.1 hH ho ht (by omega) v1 hy 4
        rw [e0_putPot (by omega), q_bnd] at y1
        have p3 : SP 50 18 H W σ2 τ2 σ3 τ3 := ⟨y3, y4⟩
        have hth : z_set (z_set (z_set (z_set σ2 (18 + 2) o (nI t)) (18 + 3) o (nI v)) (18 + 4) o (nI y)) (18 + 5) o 0 (18 + 2) h = nI t := by
          rw [s_ne (by omega), s_ne (by omega), s_ne (by omega), s_kn (by omega)]; exact s20
        refine ⟨σ3, τ3, ?_, ?_, SP_trans x3 (SP_trans p2 p3), fun k q => ?_⟩
        · rw [e0_putPot (by omega), q_bnd, k_cin _ (by omega) (by omega), hth, y1, q_bnd]
        · rw [y2, q_bnd]
        · rw [show σ3 20 = upd (σ2 20) o (nI t) from y5, q_upd]
          split
          · exact q_neg (by omega)
          · rw [f2 20 (by omega) (by omega), x4 20 (by omega)]; exact q
      · rw [if_neg (k_ngt hv0), if_neg (k_ngt hv0)]
        exact ⟨σ2, τ2, rfl, rfl, SP_trans x3 p2, fun k q => by rw [f2 20 (by omega) (by omega), x4 20 (by omega)]; exact q⟩
  · rw [if_neg hc, if_neg hc]
    exact ⟨σ1, τ1, rfl, rfl, x3, fun k q => by rw [x4 20 (by omega)]; exact q⟩
theorem e_flyL {H W a : Nat} (ha : a < 256) : ∀ (r k f g : Nat) (σ τ : z_M), k + r = H → r < f → r < g → SA 50 18 σ τ → SB 18 H W σ τ → SG H σ τ → (∀ h, a.testBit h = true → σ 20 h ≠ -1) → ∃ σ' τ', f7_fly_L43 f 50 (nI a) (nI k) σ = some ((), σ') ∧ f12_carriesOn_L64 g (nI a) (nI k) τ = some ((), τ') ∧ SP 50 18 H W σ τ σ' τ'
  | 0, k, f, g, σ, τ, h1, h2, h3, hA, hB, hG, hp => by
    obtain ⟨f, rfl⟩ : ∃ m, f = m + 1 := ⟨f - 1, by omega⟩
    obtain ⟨g, rfl⟩ : ∃ m, g = m + 1 := ⟨g - 1, by omega⟩
    have hH := hG.1.1
    refine ⟨σ, τ, ?_, ?_, SP_refl hA hB⟩
    · unfold f7_fly_L43
      rw [hG.1.2.1, if_neg (nI_nlt (by omega) (by omega))]
    · unfold f12_carriesOn_L64
      rw [hG.1.2.2.1, if_neg (nI_nlt (by omega) (by omega))]
  | r + 1, k, f, g, σ, τ, h1, h2, h3, hA, hB, hG, hp => by
    obtain ⟨f, rfl⟩ : ∃ m, f = m + 1 := ⟨f - 1, by omega⟩
    obtain ⟨g, rfl⟩ : ∃ m, g = m + 1 := ⟨g - 1, by omega⟩
    have hH := hG.1.1
    have ih := fun σ τ => e_flyL (H := H) (W := W) ha r (k + 1) f g σ τ (by omega) (by omega) (by omega)
    unfold f7_fly_L43 f12_carriesOn_L64
    rw [hG.1.2.1, if_pos (nI_lt (by omega) (by omega)), hG.1.2.2.1, if_pos (nI_lt (by omega) (by omega)), k_bit a ha k (by omega), nI_1]
    by_cases hb : a.testBit k = true
    · rw [if_pos hb, i_10, if_pos rfl]
      obtain ⟨σ1, τ1, x1, x2, x3, x4⟩ := e_swarm (h := k) hA hB hG (by omega) (hp k hb)
      obtain ⟨σ', τ', y1, y2, y3⟩ := ih σ1 τ1 x3.1.1 x3.1.2.1 (SG_fr (.inl rfl) hG x3.1.2.2) (fun h q => x4 h (hp h q))
      refine ⟨σ', τ', ?_, ?_, SP_trans x3 y3⟩
      · revert x1
        cases f7_draw 50 1000 σ with
        | none => intro x1; exact absurd x1 (by simp [z_bnd])
        | some p =>
          obtain ⟨p1, p2⟩ := p
          rw [q_bnd, q_bnd]
          intro x1
          by_cases hc : p1 < p2 1 3
          · rw [if_pos hc] at x1 ⊢
            rw [x1, q_bnd]; exact y1
          · rw [if_neg hc] at x1 ⊢
            obtain rfl : p2 = σ1 := (Prod.mk.inj (Option.some.inj x1)).2
            exact y1
      · rw [x2, q_bnd]; exact y2
    · rw [if_neg hb, i_00, if_neg (by decide)]
      exact ih σ τ hA hB hG hp
theorem e_tall {H W : Nat} {σ τ : z_M} (hB : SB 18 H W σ τ) (hG : SG H σ τ) (q : Nat → Bool) (hq : ∀ h, q h = !decide (σ 21 h < 50)) : ∀ (r k f g : Nat), k + r = H → r < f → r < g → f7_fly_L4 f 50 (nI (bN q k)) (nI k) σ = f7_fly_J41 50 (nI (bN q H)) σ ∧ f12_carriesOn_L19 g (nI (bN q k)) (nI k) τ = f12_carriesOn_J62 (nI (bN q H)) τ
  | 0, k, f, g, h1, h2, h3 => by
    obtain ⟨f, rfl⟩ : ∃ m, f = m + 1 := ⟨f - 1, by omega⟩
    obtain ⟨g, rfl⟩ : ∃ m, g = m + 1 := ⟨g - 1, by omega⟩
    obtain rfl : k = H := by omega
    have hH := hG.1.1
    unfold f7_fly_L4 f12_carriesOn_L19
    rw [hG.1.2.1, if_neg (nI_nlt (by omega) (by omega)), hG.1.2.2.1, if_neg (nI_nlt (by omega) (by omega))]
    exact ⟨rfl, rfl⟩
  | r + 1, k, f, g, h1, h2, h3 => by
    obtain ⟨f, rfl⟩ : ∃ m, f = m + 1 := ⟨f - 1, by omega⟩
    obtain ⟨g, rfl⟩ : ∃ m, g = m + 1 := ⟨g - 1, by omega⟩
    have hH := hG.1.1
    have hv := hB.2.2.2.2.1 k (by omega)
    have ih := e_tall hB hG q hq r (k + 1) f g (by omega) (by omega) (by omega)
    rw [bN_s (k := k)] at ih
    unfold f7_fly_L4 f12_carriesOn_L19
    rw [hG.1.2.1, if_pos (nI_lt (by omega) (by omega)), hG.1.2.2.1, if_pos (nI_lt (by omega) (by omega)), k_cin _ (by omega) (by omega), q_ix (by omega), show z_sb 50 = 18 from rfl, show σ (18 + 3) k = σ 21 k from rfl, e12_potOf' (by omega) τ hv.1, q_bnd, nI_1, k_shl k (by omega), k_or, l_76, nI_add, k_cin _ (by omega) (by omega), q_ix (by omega)]
    by_cases hc : σ 21 k < 50
    · have hqk : q k = false := by rw [hq, decide_eq_true hc]; rfl
      rw [if_neg (by rw [hqk]; decide)] at ih
      rw [if_pos hc]
      refine ⟨ih.1, ?_⟩
      by_cases hp : σ (18 + 2) k = -1
      · rw [if_pos hp]; exact ih.2
      · rcases hv.2 with z | ⟨-, -, -, -, -, r6, -, -⟩
        · exact absurd z.1 hp
        · have r6 : τ 1 (76 + k) = σ 21 k := r6
          rw [if_neg hp, r6, if_pos hc]; exact ih.2
    · have hqk : q k = true := by rw [hq, decide_eq_false hc]; rfl
      rw [if_pos hqk] at ih
      rw [if_neg hc]
      refine ⟨ih.1, ?_⟩
      rcases hv.2 with z | ⟨-, ⟨t, ht, et⟩, -, -, -, r6, -, -⟩
      · have : σ 21 k = 0 := z.2.1
        rw [this] at hc; exact absurd (by decide) hc
      · have r6 : τ 1 (76 + k) = σ 21 k := r6
        rw [if_neg (by rw [show σ (18 + 2) k = nI t from et]; exact q_neg (by omega)), r6, if_neg hc]; exact ih.2
theorem e_fly {s b H W : Nat} {σ τ : z_M} (hA : SA s b σ τ) (hB : SB b H W σ τ) (hG : SG H σ τ) : ∃ σ' τ', f7_pass_J137 s σ = f7_pass_J158 s σ' ∧ f12_carriesOn τ = some ((), τ') ∧ SP s b H W σ τ σ' τ' := by
  have hH := hG.1.1
  rcases hA with ⟨rfl, rfl, a3, a4, a5⟩ | ⟨rfl, rfl, a3, a4⟩
  · have hA : SA 50 18 σ τ := .inl ⟨rfl, rfl, a3, a4, a5⟩
    obtain ⟨be, hbe, ebe⟩ := hG.1.2.2.2.2.2.2.2.1
    have ebm : τ 0 9 = nI be := by rw [hG.1.2.2.2.2.2.2.2.2]; exact ebe
    unfold f7_pass_J137 f12_carriesOn
    rw [a3, i_10, ebe, a4, i_00, ebm]
    by_cases h0 : be = 0
    · rw [if_neg (k_ngt (by omega)), if_pos (k_z h0)]
      exact ⟨σ, τ, rfl, rfl, SP_refl hA hB⟩
    · rw [if_pos (k_gt (by omega) (by omega)), if_neg (k_nz h0 (by omega))]
      unfold f7_fly
      obtain ⟨t1, t2⟩ := e_tall hB hG (fun h => !decide (σ 21 h < 50)) (fun _ => rfl) H 0 z_fu z_fu (by omega) (show H < 1000 by omega) (show H < 1000 by omega)
      have t1 : f7_fly_L4 z_fu 50 0 0 σ = _ := t1
      have t2 : f12_carriesOn_L19 z_fu 0 0 τ = _ := t2
      have hlt : bN (fun h => !decide (σ 21 h < 50)) H < 256 := Nat.lt_of_lt_of_le (bN_lt _ H) (Nat.pow_le_pow_right (n := 2) (by omega) hH)
      obtain ⟨σ', τ', y1, y2, y3⟩ := e_flyL (H := H) (W := W) hlt H 0 z_fu z_fu σ τ (by omega) (show H < 1000 by omega) (show H < 1000 by omega) hA hB hG (fun h q => by
        rw [bN_bit] at q
        simp at q
        have hv := hB.2.2.2.2.1 h (by omega)
        rcases hv.2 with z | ⟨-, ⟨t, ht, et⟩, -⟩
        · have z1 : σ 21 h = 0 := z.2.1
          rw [z1] at q
          exact absurd q.2 (by decide)
        · rw [show σ 20 h = nI t from et]; exact q_neg (by omega))
      have y1 : f7_fly_J41 50 (nI (bN (fun h => !decide (σ 21 h < 50)) H)) σ = some ((), σ') := y1
      have y2 : f12_carriesOn_J62 (nI (bN (fun h => !decide (σ 21 h < 50)) H)) τ = some ((), τ') := y2
      rw [t1, t2, y1, y2, q_bnd]
      exact ⟨σ', τ', rfl, rfl, y3⟩
  · unfold f7_pass_J137 f12_carriesOn
    rw [a3, i_00, a4, i_10]
    exact ⟨σ, τ, rfl, rfl, SP_refl (.inr ⟨rfl, rfl, a3, a4⟩) hB⟩
