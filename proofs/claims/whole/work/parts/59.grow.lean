/-! a week: the plan, the reasons, the pots that grow -/
def SG (H : Nat) (σ τ : z_M) : Prop := G_sc H (σ 1 0) (σ 1 1) (σ 1 2) (σ 1 3) (τ 0 6) (τ 0 7) (τ 0 8) (τ 0 9) ∧ G_li H (σ 3) (τ 5) ∧ G_re (σ 4 2) (τ 0 36) (σ 5) (τ 17) ∧ LG σ τ ∧ G_pl H (σ 13 2) (τ 0 40) (σ 14) (τ 19)
theorem SG_fr {s b H : Nat} {σ τ σ' τ' : z_M} (hb : b = 18 ∨ b = 52) (h : SG H σ τ) (f : FR s b σ τ σ' τ') : SG H σ' τ' := by
  obtain ⟨f1, -, f3, f4⟩ := f
  have q : ∀ c, c ≤ 14 → σ' c = σ c := fun c hc => f1 c (by omega) (by omega) (by omega) (by omega)
  have t : ∀ c, 2 ≤ c → c ≤ 19 → c ≠ 6 → τ' c = τ c := fun c h1 h2 h3 => f3 c (by omega) (by omega) h3 (by omega) (by omega)
  obtain ⟨g1, g2, g3, g4, g5⟩ := h
  refine ⟨?_, ?_, ?_, LG_cong g4 (fun c a b => q c (by omega)) (fun c a b => t c (by omega) (by omega) (by omega)), ?_⟩
  · rw [q 1 (by omega), f4 6 (by omega), f4 7 (by omega), f4 8 (by omega), f4 9 (by omega)]; exact g1
  · rw [q 3 (by omega), t 5 (by omega) (by omega) (by omega)]; exact g2
  · rw [q 4 (by omega), q 5 (by omega), f4 36 (by omega), t 17 (by omega) (by omega) (by omega)]; exact g3
  · rw [q 13 (by omega), q 14 (by omega), f4 40 (by omega), t 19 (by omega) (by omega) (by omega)]; exact g5
/-- what a step keeps, and the breaches with it -/
def SP (s b H W : Nat) (σ τ σ' τ' : z_M) : Prop := ST s b H W σ τ σ' τ' ∧ (σ' b 7 = σ b 7 ∧ σ' b 6 = σ b 6)
theorem SP_refl {s b H W : Nat} {σ τ : z_M} (hA : SA s b σ τ) (hB : SB b H W σ τ) : SP s b H W σ τ σ τ := ⟨⟨hA, hB, FR_refl s b σ τ⟩, rfl, rfl⟩
theorem SP_trans {s b H W : Nat} {σ τ σ' τ' σ'' τ'' : z_M} (h : SP s b H W σ τ σ' τ') (g : SP s b H W σ' τ' σ'' τ'') : SP s b H W σ τ σ'' τ'' := ⟨⟨g.1.1, g.1.2.1, FR_trans h.1.2.2 g.1.2.2⟩, g.2.1.trans h.2.1, g.2.2.trans h.2.2⟩
/-- scratch alone has changed -/
theorem SP_scr {s b H W : Nat} {σ τ σ' τ' : z_M} (hA : SA s b σ τ) (hB : SB b H W σ τ) (f1 : ∀ c, c ≠ 48 → c ≠ 49 → σ' c = σ c) (f2 : ∀ c, c ≠ 20 → c ≠ 21 → τ' c = τ c) : SP s b H W σ τ σ' τ' := by
  obtain ⟨sb, hb, -⟩ := SA_sb hA
  refine ⟨⟨SA_cong hA (f1 50 (by omega) (by omega)) (f1 51 (by omega) (by omega)) (f1 17 (by omega) (by omega)) (by rw [f2 0 (by omega) (by omega)]) (f2 6 (by omega) (by omega)), ?_, fun c _ _ a b => f1 c a b, fun _ => ⟨f1 17 (by omega) (by omega), f2 6 (by omega) (by omega)⟩, fun c _ _ _ a b => f2 c a b, fun k _ => by rw [f2 0 (by omega) (by omega)]⟩, by rw [f1 b (by omega) (by omega)], by rw [f1 b (by omega) (by omega)]⟩
  unfold SB
  rw [f1 b (by omega) (by omega), f1 (b + 1) (by omega) (by omega), f1 (b + 2) (by omega) (by omega), f1 (b + 3) (by omega) (by omega), f1 (b + 4) (by omega) (by omega), f1 (b + 5) (by omega) (by omega), f2 1 (by omega) (by omega)]
  exact hB
theorem e0_bel {b h t w : Nat} (hh : h < 8) (ht : t < 8) (hw : w < 2 ^ 31) (σ : z_M) : f0_believe b (nI h) (nI t) (nI w) σ = some ((), z_set σ (b + 1) (8 * h + t) (nI (min 100 w))) := by
  unfold f0_believe
  rw [l_8, pk_mul, nI_add, k_cin _ (by omega) (by omega), q_ix (by omega), q_let, l_100, s_min (by omega) hw, l_0, s_max (by omega) (by omega), Nat.mul_comm h 8, Nat.max_eq_right (Nat.zero_le _)]
theorem SP_deg {s b H W h t v : Nat} {σ τ : z_M} (hA : SA s b σ τ) (hB : SB b H W σ τ) (hH : H ≤ 8) (hh : h < H) (ht : t < 8) (hv : v ≤ 100) : SP s b H W σ τ (z_set σ (b + 1) (8 * h + t) (nI v)) (z_set τ 1 (4 + (8 * h + t)) (nI v - 50)) := ⟨e_deg hA hB hH hh ht hv, by rw [s_ne (by omega)], by rw [s_ne (by omega)]⟩
/-- the reasons, one house -/
theorem e_reasL {s b H W h n : Nat} {R0 R1 R2 : Nat → Nat} (hH : H ≤ 8) (hh : h < H) : ∀ (r k f g : Nat) (σ τ : z_M), k + r = n → r < f → r < g → SA s b σ τ → SB b H W σ τ → RS n R0 R1 R2 σ τ → ∃ σ' τ', f7_reasonOut_L11 f s (nI h) (nI (sN (σ (b + 1)) h)) (nI k) σ = some ((), σ') ∧ f12_reasonsAt_L2 g (nI h) (nI k) τ = some ((), τ') ∧ SP s b H W σ τ σ' τ'
  | 0, k, f, g, σ, τ, h1, h2, h3, hA, hB, hr => by
    obtain ⟨f, rfl⟩ : ∃ m, f = m + 1 := ⟨f - 1, by omega⟩
    obtain ⟨g, rfl⟩ : ∃ m, g = m + 1 := ⟨g - 1, by omega⟩
    have hn := hr.1
    refine ⟨σ, τ, ?_, ?_, SP_refl hA hB⟩
    · unfold f7_reasonOut_L11
      rw [hr.2.1, if_neg (nI_nlt (by omega) (by omega))]
    · unfold f12_reasonsAt_L2
      rw [hr.2.2.1, if_neg (nI_nlt (by omega) (by omega))]
  | r + 1, k, f, g, σ, τ, h1, h2, h3, hA, hB, hr => by
    obtain ⟨f, rfl⟩ : ∃ m, f = m + 1 := ⟨f - 1, by omega⟩
    obtain ⟨g, rfl⟩ : ∃ m, g = m + 1 := ⟨g - 1, by omega⟩
    obtain ⟨sb, hb, -⟩ := SA_sb hA
    have hn := hr.1
    obtain ⟨r0, r1p, r1, r2, -⟩ := hr.2.2.2 k (by omega)
    have hd : ∀ i, i < 64 → τ 1 (4 + i) = σ (b + 1) i - 50 := fun i hi => (hB.2.2.2.1 i hi).1
    obtain ⟨D, hD, eD⟩ := (hB.2.2.2.1 (8 * h + R0 k) (by omega)).2
    unfold f7_reasonOut_L11 f12_reasonsAt_L2
    rw [hr.2.1, if_pos (nI_lt (by omega) (by omega)), RS_a0 hr (by omega), q_bnd, RS_a1 hr (by omega), q_bnd, RS_a2 hr (by omega), q_bnd, hr.2.2.1, if_pos (nI_lt (by omega) (by omega)), RS_m0 hr (by omega), q_bnd, RS_m2 hr (by omega), q_bnd, RS_m1 hr (by omega), q_bnd, e12_suresOf (by omega) τ hd, q_bnd, k_dN r1, sb, nI_1]
    by_cases c1 : 0 < R2 k
    · rw [if_pos (k_gt c1 (by omega)), if_pos (k_gt c1 (by omega))]
      by_cases c2 : dN (R1 k) (sN (σ (b + 1)) h) = 0
      · rw [if_pos (k_z c2), if_pos (k_z c2), e0_degreeOf (by omega) r0, q_bnd, eD, nI_add, e0_bel (by omega) r0 (by omega), q_bnd, e0_sureOf (by omega), q_bnd, e12_degreeOf (by omega) r0, q_bnd, RS_m2 hr (by omega), q_bnd, hd _ (by omega), eD, q_sub_add, nI_add, e12_held, q_bnd]
        have hm : (if nI (D + R2 k) < 0 then (0 : Int32) else if 100 < nI (D + R2 k) then 100 else nI (D + R2 k)) = nI (min 100 (D + R2 k)) := by
          rw [if_neg (nI_pos (by omega))]
          by_cases q : 100 < D + R2 k
          · have q1 : (100 : Int32) < nI (D + R2 k) := nI_lt (a := 100) q (by omega)
            rw [if_pos q1, Nat.min_eq_left (by omega)]; rfl
          · have q1 : ¬ (100 : Int32) < nI (D + R2 k) := nI_nlt (a := 100) (by omega) (by omega)
            rw [if_neg q1, Nat.min_eq_right (by omega)]
        rw [hm, e12_degreeBe (by omega) r0, q_bnd]
        have p := SP_deg (v := min 100 (D + R2 k)) hA hB hH hh r0 (by omega)
        obtain ⟨σ', τ', x1, x2, x3⟩ := e_reasL hH hh r (k + 1) f g _ _ (by omega) (by omega) (by omega) p.1.1 p.1.2.1 (RS_cong hr (by rw [s_ne (by omega)]) (s_ne (by omega)) (by rw [s_ne (by omega)]) (s_ne (by omega)))
        exact ⟨σ', τ', x1, x2, SP_trans p x3⟩
      · have c2' := k_nz c2 (Nat.lt_trans (dN_lt r1 _) (by omega))
        rw [if_neg c2', if_neg c2']
        exact e_reasL hH hh r (k + 1) f g σ τ (by omega) (by omega) (by omega) hA hB hr
    · rw [if_neg (k_ngt c1), if_neg (k_ngt c1)]
      exact e_reasL hH hh r (k + 1) f g σ τ (by omega) (by omega) (by omega) hA hB hr
theorem e_reas {s b H W h : Nat} {σ τ : z_M} (hA : SA s b σ τ) (hB : SB b H W σ τ) (hG : SG H σ τ) (hh : h < H) : ∃ σ' τ', f7_reasonOut s (nI h) σ = some ((), σ') ∧ f12_reasonsAt (nI h) τ = some ((), τ') ∧ SP s b H W σ τ σ' τ' := by
  obtain ⟨sb, hb, -⟩ := SA_sb hA
  obtain ⟨n, R0, R1, R2, hr⟩ := RS_of hG.2.2.1
  have hn := hr.1
  obtain ⟨σ', τ', x1, x2, x3⟩ := e_reasL hG.1.1 hh n 0 z_fu z_fu σ τ (by omega) (show n < 1000 by omega) (show n < 1000 by omega) hA hB hr
  refine ⟨σ', τ', ?_, x2, x3⟩
  unfold f7_reasonOut
  have := hG.1.1
  rw [sb, e0_sureOf (by omega), q_bnd]
  exact x1
/-- the law's numbers, asked for a pot -/
theorem e_asked {s b H W h : Nat} {σ τ σ1 τ1 : z_M} (hA : SA s b σ τ) (hB : SB b H W σ τ) (hG : SG H σ τ) (f1 : ∀ c, c ≠ 48 → σ1 c = σ c) (f2 : ∀ c, c ≠ 20 → τ1 c = τ c) (hs : ∀ k, k < 8 → σ1 48 k = τ1 20 k) : ∃ v x σa σ2 τa τ2, v ≤ 100 ∧ (-99 ≤ x.toInt ∧ x.toInt ≤ 99) ∧ f5_lowers 7 σ1 = some (nI v, σa) ∧ f5_grows 7 σa = some (x, σ2) ∧ f12_lowerAsked τ1 = some (nI v, τa) ∧ f12_growAsked τa = some (x, τ2) ∧ (∀ c, c ≠ 48 → c ≠ 49 → σa c = σ c) ∧ (∀ c, c ≠ 48 → c ≠ 49 → σ2 c = σ c) ∧ (∀ c, c ≠ 20 → c ≠ 21 → τ2 c = τ c) := by
  have lg1 : LG σ1 τ1 := LG_cong hG.2.2.2.1 (fun c a b => f1 c (by omega)) (fun c a b => f2 c (by omega))
  obtain ⟨v, σa, τa, v1, v2, v3, v4, v5⟩ := e_lower lg1 hs
  have lg2 : LG σa τa := LG_cong lg1 (fun c a b => v4 c (by omega)) (fun c a b => v5 c (by omega))
  obtain ⟨x, σ2, τ2, w1, w2, w3, w4, w5⟩ := e_grow lg2 (fun k hk => by rw [v4 48 (by omega), v5 20 (by omega)]; exact hs k hk)
  exact ⟨v, x, σa, σ2, τa, τ2, v1, w1, v2, w2, v3, w3, fun c a b => (v4 c b).trans (f1 c a), fun c a b => (w4 c b).trans ((v4 c b).trans (f1 c a)), fun c a b => (w5 c b).trans ((v5 c b).trans (f2 c a))⟩
theorem bel_sub {D v : Nat} (hD : D ≤ 100) (hv : v ≤ 100) : z_max 0 (z_min 100 (nI D - nI v)) = nI (D - v) ∧ (if nI D - nI v < 0 then (0 : Int32) else nI D - nI v) = nI (D - v) := by
  by_cases h : v ≤ D
  · rw [pk_sub h, if_neg (nI_pos (by omega)), l_100, s_min (by omega) (by omega), l_0, s_max (by omega) (by omega), Nat.min_eq_right (by omega), Nat.max_eq_right (Nat.zero_le _)]
    exact ⟨rfl, rfl⟩
  · have hneg : nI D - nI v < 0 := pk_sneg (by omega) (by omega)
    rw [if_pos hneg, show D - v = 0 by omega]
    refine ⟨?_, rfl⟩
    unfold z_max z_min
    have h1 : nI D - nI v < 100 := by
      rw [Int32.lt_iff_toInt_lt] at hneg ⊢
      have : (0 : Int32).toInt = 0 := rfl
      have : (100 : Int32).toInt = 100 := rfl
      omega
    rw [if_pos h1, if_neg]
    · rfl
    · rw [Int32.lt_iff_toInt_lt] at hneg ⊢
      omega
theorem add_toInt {y : Nat} {x : Int32} (hy : y ≤ 99) (h1 : -99 ≤ x.toInt) (h2 : x.toInt ≤ 99) : (nI y + x).toInt = (y : Int) + x.toInt := by
  rw [Int32.toInt_add, nI_toInt (by omega), Int.bmod_eq_of_le] <;> omega
/-- a pot that grows: its new height, or none -/
theorem hgt {y : Nat} {x : Int32} (hy1 : 1 ≤ y) (hy : y ≤ 99) (h1 : -99 ≤ x.toInt) (h2 : x.toInt ≤ 99) : (nI y + x < 1 ∧ z_min 99 (nI y + x) = nI y + x ∧ (if nI y + x < -99 then (-99 : Int32) else if 99 < nI y + x then 99 else nI y + x) = nI y + x) ∨ (¬ nI y + x < 1 ∧ ∃ z, 1 ≤ z ∧ z ≤ 99 ∧ z_min 99 (nI y + x) = nI z ∧ (if nI y + x < -99 then (-99 : Int32) else if 99 < nI y + x then 99 else nI y + x) = nI z ∧ ¬ nI z < 1) := by
  have e := add_toInt hy h1 h2
  have k1 : (1 : Int32).toInt = 1 := rfl
  have k99 : (99 : Int32).toInt = 99 := rfl
  have km : (-99 : Int32).toInt = -99 := rfl
  have nm : ¬ nI y + x < -99 := by rw [Int32.lt_iff_toInt_lt]; omega
  by_cases hl : nI y + x < 1
  · left
    have hl2 := hl
    rw [Int32.lt_iff_toInt_lt] at hl2
    have a : nI y + x < 99 := by rw [Int32.lt_iff_toInt_lt]; omega
    have b : ¬ 99 < nI y + x := by rw [Int32.lt_iff_toInt_lt]; omega
    refine ⟨hl, ?_, ?_⟩
    · unfold z_min; rw [if_pos a]
    · rw [if_neg nm, if_neg b]
  · right
    have hl2 := hl
    rw [Int32.lt_iff_toInt_lt] at hl2
    refine ⟨hl, ?_⟩
    by_cases h99 : 99 < nI y + x
    · have h3 := h99
      rw [Int32.lt_iff_toInt_lt] at h3
      have a : ¬ nI y + x < 99 := by rw [Int32.lt_iff_toInt_lt]; omega
      refine ⟨99, by omega, by omega, ?_, ?_, by decide⟩
      · unfold z_min; rw [if_neg a]; rfl
      · rw [if_neg nm, if_pos h99]; rfl
    · have h3 := h99
      rw [Int32.lt_iff_toInt_lt] at h3
      have h0 : ¬ nI y + x < 0 := by
        rw [Int32.lt_iff_toInt_lt]
        have : (0 : Int32).toInt = 0 := rfl
        omega
      obtain ⟨z, hz, ez⟩ := nI_of h0
      have ez2 := nI_toInt hz
      rw [ez] at hl hl2 h3 h99 nm ⊢
      rw [ez2] at hl2 h3
      refine ⟨z, by omega, by omega, ?_, ?_, hl⟩
      · unfold z_min
        by_cases q : nI z < 99
        · rw [if_pos q]
        · rw [if_neg q]
          rw [Int32.lt_iff_toInt_lt, ez2] at q
          have : z = 99 := by omega
          rw [this]; rfl
      · rw [if_neg nm, if_neg h99]
/-- behind the law's numbers, the class -/
theorem e7_growC {s b h t y D v : Nat} {x : Int32} {σ σ1 σa σ2 : z_M} (sb : z_sb s = b) (hb : b = 18 ∨ b = 52) (hh : h < 8) (ht : t < 8) (hD : D ≤ 100) (hv : v ≤ 100) (sv : Int32) (o1 : f5_observe 1 b (nI h) sv σ = some ((), σ1)) (l1 : f5_lowers 7 σ1 = some (nI v, σa)) (l2 : f5_grows 7 σa = some (x, σ2)) (fa : ∀ c, c ≠ 48 → c ≠ 49 → σa c = σ c) (f2 : ∀ c, c ≠ 48 → c ≠ 49 → σ2 c = σ c) (et : σ (b + 2) h = nI t) (ey : σ (b + 3) h = nI y) (eD : σ (b + 1) (8 * h + t) = nI D) : f7_growPot s (nI h) sv σ = (if nI y + x < 1 then f7_lose s (nI h) 2 (z_set (z_set (z_set σ2 (b + 1) (8 * h + t) (nI (D - v))) (b + 3) h (z_min 99 (nI y + x))) (b + 5) h 0) else some ((), z_set (z_set (z_set σ2 (b + 1) (8 * h + t) (nI (D - v))) (b + 3) h (z_min 99 (nI y + x))) (b + 5) h 0)) := by
  have e3 : σa (b + 3) h = nI y := by rw [fa _ (by omega) (by omega)]; exact ey
  have e1 : σ2 (b + 1) (8 * h + t) = nI D := by rw [f2 _ (by omega) (by omega)]; exact eD
  have bl : f0_believe b (nI h) (nI t) (nI D - nI v) σ2 = some ((), z_set σ2 (b + 1) (8 * h + t) (nI (D - v))) := by
    unfold f0_believe
    rw [l_8, pk_mul, nI_add, k_cin _ (by omega) (by omega), q_ix (by omega), q_let, (bel_sub hD hv).1, Nat.mul_comm h 8]
  unfold f7_growPot
  rw [sb, k_cin _ hh (by omega), o1, q_bnd, l1, q_bnd, k_cin _ hh (by omega), l2, q_bnd, q_ix (by omega), et, e3, q_let, e0_degreeOf hh ht, q_bnd, e1, bl, q_bnd, k_cin _ hh (by omega), q_let, k_cin _ hh (by omega), q_let]
  by_cases q : nI y + x < 1
  · rw [if_pos q, if_pos q]
    cases f7_lose s (nI h) 2 (z_set (z_set (z_set σ2 (b + 1) (8 * h + t) (nI (D - v))) (b + 3) h (z_min 99 (nI y + x))) (b + 5) h 0) with
    | none => rfl
    | some p => obtain ⟨⟨⟩, p⟩ := p; rfl
  · rw [if_neg q, if_neg q]
theorem e_growP {s b H W h : Nat} {σ τ : z_M} (hA : SA s b σ τ) (hB : SB b H W σ τ) (hG : SG H σ τ) (hh : h < 8) (hp : σ (b + 2) h ≠ -1) : ∃ σ' τ', f7_growPot s (nI h) (nI (pc (sN (σ (b + 1)) h))) σ = some ((), σ') ∧ f12_grows (nI h) τ = some ((), τ') ∧ SP s b H W σ τ σ' τ' := by
  obtain ⟨sb, hb, -⟩ := SA_sb hA
  have hH := hG.1.1
  have hB' := hB
  obtain ⟨-, -, -, c3, c4, -⟩ := hB'
  obtain ⟨q1, q2⟩ := c4 h hh
  rcases q2 with q2 | ⟨r1, ⟨t, ht, et⟩, ⟨y, hy1, hy, ey⟩, r4, r5, r6, r7, r8⟩
  · exact absurd q2.1 hp
  obtain ⟨eD1, D, hD, eD⟩ := c3 (8 * h + t) (by omega)
  obtain ⟨f, g, o1, o2, o3, o4, o5⟩ := e_obs hb hB hh hp (G_li_256 hH hG.2.1) (nI (pc (sN (σ (b + 1)) h)))
  obtain ⟨v, x, σa, σ2, τa, τ2, v1, ⟨x1, x2⟩, l1, l2, m1, m2, fa, f2, g2⟩ := e_asked (h := h) hA hB hG (σ1 := z_fl σ 48 0 8 f) (τ1 := z_fl τ 20 0 8 g) (fun c a => fl_ne a) (fun c a => fl_ne a) (fun k hk => by
    rw [fl_in (by omega) (by omega), fl_in (by omega) (by omega), Nat.sub_zero]
    by_cases k6 : k = 6
    · rw [k6, o4, o5]
    · exact o3 k hk k6)
  have hc := e7_growC sb hb hh ht hD v1 _ o1 l1 l2 fa f2 et ey eD
  have p0 := SP_scr (W := W) (H := H) hA hB f2 g2
  have p1 := SP_deg (v := D - v) p0.1.1 p0.1.2.1 hH r1 ht (by omega)
  have p := SP_trans p0 p1
  have t68 : τ2 1 (68 + h) = nI t + 1 := by rw [g2 1 (by omega) (by omega), q1, et]
  have t4 : τ2 1 (4 + (8 * h + t)) + 50 = nI D := by rw [g2 1 (by omega) (by omega), eD1, q_sub_add, eD]
  have t76 : z_set τ2 1 (4 + (8 * h + t)) (nI (D - v) - 50) 1 (76 + h) = nI y := by rw [s_kn (by omega), g2 1 (by omega) (by omega), r6, ey]
  have hm : ∀ z, (if nI y + x < -99 then (-99 : Int32) else if 99 < nI y + x then 99 else nI y + x) = z → f12_grows (nI h) τ = (if z < 1 then f12_loses (nI h) 2 (z_set (z_set (z_set τ2 1 (4 + (8 * h + t)) (nI (D - v) - 50)) 1 (76 + h) z) 1 (92 + h) 0) else some ((), z_set (z_set (z_set τ2 1 (4 + (8 * h + t)) (nI (D - v) - 50)) 1 (76 + h) z) 1 (92 + h) 0)) := by
    intro z hz
    have gr : f12_greater 0 (nI D - nI v) τ2 = some (nI (D - v), τ2) := by rw [e12_greater, (bel_sub hD v1).2]
    unfold f12_grows
    rw [o2, q_bnd, m1, q_bnd, m2, q_bnd, e12_potOf' hh τ2 t68, q_bnd, e12_degreeOf hh ht, q_bnd, t4, gr, q_bnd, e12_degreeBe hh ht, q_bnd, l_76, l_92, nI_add, nI_add, k_cin _ (by omega) (by omega), q_ix (show 76 + h < 2 ^ 31 by omega), q_ix (show 92 + h < 2 ^ 31 by omega), t76, e12_held, q_bnd, hz, k_cin _ (by omega) (by omega), q_let, k_cin _ (by omega) (by omega), q_let, k_cin _ (by omega) (by omega), s_kn (show 76 + h ≠ 92 + h by omega), s_eq]
    by_cases q : z < 1
    · rw [if_pos q, if_pos q]
      cases f12_loses (nI h) 2 (z_set (z_set (z_set τ2 1 (4 + (8 * h + t)) (nI (D - v) - 50)) 1 (76 + h) z) 1 (92 + h) 0) with
      | none => rfl
      | some p => obtain ⟨⟨⟩, p⟩ := p; rfl
    · rw [if_neg q, if_neg q]
  rcases hgt hy1 hy x1 x2 with ⟨a1, a2, a3⟩ | ⟨a1, z, z1, z2, a2, a3, a4⟩
  · rw [hc, hm _ a3, if_pos a1, if_pos a1, a2]
    obtain ⟨σ', τ', e1, e2, e3, e4, -⟩ := e_lose2 (h := h) (σ := z_set (z_set (z_set σ2 (b + 1) (8 * h + t) (nI (D - v))) (b + 3) h (nI y + x)) (b + 5) h 0) (τ := z_set (z_set (z_set τ2 1 (4 + (8 * h + t)) (nI (D - v) - 50)) 1 (76 + h) (nI y + x)) 1 (92 + h) 0) (SA_cong p1.1.1 (by simp (disch := omega) only [s_ne]) (by simp (disch := omega) only [s_ne]) (by simp (disch := omega) only [s_ne]) (by simp (disch := omega) only [s_ne]) (by simp (disch := omega) only [s_ne])) p1.1.2.1 hh (fun c a b => by rw [s_ne b, s_ne a]) (fun k a => ⟨by rw [s_ne (by omega), s_kn a], by rw [s_kn a, s_ne (by omega)]⟩) (fun c a => by rw [s_ne a, s_ne a]) (fun k a b => by rw [s_kn b, s_kn a]) 2
    exact ⟨σ', τ', e1, e2, SP_trans p ⟨e3, e4⟩⟩
  · rw [hc, hm _ a3, if_neg a1, if_neg a4, a2]
    refine ⟨_, _, rfl, rfl, SP_trans p ⟨⟨SA_cong p1.1.1 ?_ ?_ ?_ ?_ ?_, ?_, fun c a1 a2 a3 a4 => ?_, fun q => ⟨?_, ?_⟩, fun c a1 a2 a3 a4 a5 => ?_, fun k a => ?_⟩, ?_, ?_⟩⟩
    · simp (disch := omega) only [s_ne]
    · simp (disch := omega) only [s_ne]
    · simp (disch := omega) only [s_ne]
    · simp (disch := omega) only [s_ne]
    · simp (disch := omega) only [s_ne]
    · have hp1 : z_set σ2 (b + 1) (8 * h + t) (nI (D - v)) (b + 2) h ≠ -1 := by
        rw [s_ne (by omega), f2 _ (by omega) (by omega)]; exact hp
      have gg := G_be_hw (x := z) (w := 0) p1.1.2.1 hh hp1 z1 z2 (by omega)
      unfold SB
      simp (disch := omega) only [s_ne, s_up]
      simp (disch := omega) only [s_ne, s_up] at gg
      exact gg
    · rw [s_ne (by omega), s_ne (by omega)]
    · rw [s_ne (by omega), s_ne (by omega)]
    · rw [s_ne (by omega), s_ne (by omega)]
    · rw [s_ne (by omega), s_ne (by omega)]
    · rw [s_ne (by omega), s_ne (by omega)]
    · rw [s_ne (by omega), s_ne (by omega)]
    · rw [s_ne (by omega), s_ne (by omega)]
