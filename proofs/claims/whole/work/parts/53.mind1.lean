/-! by, part, game, done -/
theorem q_clamp {x : Int32} {n : Nat} (h : x = nI n) (hn : n < 2 ^ 31) : x = nI (z_ix x) := by
  rw [h, q_ix hn]
theorem e_by22 {H d : Nat} {σ τ : z_M} (hH : H ≤ 8) (eh : σ 1 0 = nI H) (ehm : τ 0 6 = nI H) (hp : ∀ h, h < 8 → τ 1 (68 + h) = σ 20 h + 1) (hl : ∀ h, h < 8 → τ 5 h = σ 3 h ∧ ∃ n, n < 256 ∧ σ 3 h = nI n) (p : Int32) (kc : Nat → Int32 → Int32 → Int32 → z_M → Option (Int32 × z_M)) (km : Int32 → Int32 → Int32 → z_M → Option (Int32 × z_M)) (hk : ∀ nx, nx < 256 → ∃ x, kc 1 p (nI nx) (nI (d + 1)) σ = some (x, σ) ∧ km p (nI nx) (nI (d + 1)) τ = some (x, τ)) (near : Nat) (hn : near < 256) : ∀ (r k n m next : Nat), next < 256 → k + r = H → r < n → r < m → ∃ x, f4_flight_L22 kc n 1 p (nI near) (nI d) (nI next) (nI k) σ = some (x, σ) ∧ f12_by_L43 km m p (nI near) (nI d) (nI next) (nI k) τ = some (x, τ)
  | 0, k, n, m, next, hx, h1, h2, h3 => by
    obtain ⟨n, rfl⟩ : ∃ m, n = m + 1 := ⟨n - 1, by omega⟩
    obtain ⟨m, rfl⟩ : ∃ n, m = n + 1 := ⟨m - 1, by omega⟩
    unfold f4_flight_L22 f12_by_L43 f4_flight_J76 f12_by_J95
    rw [eh, ehm, if_neg (nI_nlt (by omega) (by omega)), if_neg (nI_nlt (by omega) (by omega)), nI_1]
    exact hk next hx
  | r + 1, k, n, m, next, hx, h1, h2, h3 => by
    obtain ⟨n, rfl⟩ : ∃ m, n = m + 1 := ⟨n - 1, by omega⟩
    obtain ⟨m, rfl⟩ : ∃ n, m = n + 1 := ⟨m - 1, by omega⟩
    unfold f4_flight_L22 f12_by_L43
    rw [eh, ehm, if_pos (nI_lt (by omega) (by omega)), if_pos (nI_lt (by omega) (by omega)), k_bit near hn k (by omega), nI_1]
    by_cases hb : near.testBit k = true
    · obtain ⟨e1, x, hx2, e2⟩ := hl k (by omega)
      rw [if_pos hb, i_10, i_10, k_cin _ (by omega) (by omega), k_cin _ (by omega) (by omega), e12_potOf' (by omega) τ (hp k (by omega)), q_bnd, k_cin _ (by omega) (by omega), q_ix (by omega), e1]
      show ∃ x, (if σ 20 k = p then _ else f4_flight_L22 kc n 1 p (nI near) (nI d) (nI next ||| σ 3 k) (nI (k + 1)) σ) = _ ∧ _
      by_cases hq : σ 20 k = p
      · rw [if_pos hq, if_pos hq]; exact ⟨_, rfl, rfl⟩
      · rw [if_neg hq, if_neg hq, e2, k_or]
        exact e_by22 hH eh ehm hp hl p kc km hk near hn r (k + 1) n m (next ||| x) (Nat.or_lt_two_pow (n := 8) hx hx2) (by omega) (by omega) (by omega)
    · rw [if_neg hb, if_pos rfl, if_pos rfl]
      exact e_by22 hH eh ehm hp hl p kc km hk near hn r (k + 1) n m next hx (by omega) (by omega) (by omega)
theorem e_by8 {H : Nat} {σ τ : z_M} (hH : H ≤ 8) (eh : σ 1 0 = nI H) (ehm : τ 0 6 = nI H) (hp : ∀ h, h < 8 → τ 1 (68 + h) = σ 20 h + 1) (hl : ∀ h, h < 8 → τ 5 h = σ 3 h ∧ ∃ n, n < 256 ∧ σ 3 h = nI n) (p : Int32) : ∀ (r d n m near : Nat), near < 256 → d + r = 8 → r < n → r < m → ∃ x, f4_flight_L8 n 1 p (nI near) (nI d) σ = some (x, σ) ∧ f12_by_L30 m p (nI near) (nI d) τ = some (x, τ)
  | 0, d, n, m, near, hx, h1, h2, h3 => by
    obtain ⟨n, rfl⟩ : ∃ m, n = m + 1 := ⟨n - 1, by omega⟩
    obtain ⟨m, rfl⟩ : ∃ n, m = n + 1 := ⟨m - 1, by omega⟩
    unfold f4_flight_L8 f12_by_L30
    rw [l_8, if_neg (nI_nlt (by omega) (by omega)), if_neg (nI_nlt (by omega) (by omega))]
    exact ⟨_, rfl, rfl⟩
  | r + 1, d, n, m, near, hx, h1, h2, h3 => by
    obtain ⟨n, rfl⟩ : ∃ m, n = m + 1 := ⟨n - 1, by omega⟩
    obtain ⟨m, rfl⟩ : ∃ n, m = n + 1 := ⟨m - 1, by omega⟩
    unfold f4_flight_L8 f12_by_L30
    rw [l_8, if_pos (nI_lt (by omega) (by omega)), if_pos (nI_lt (by omega) (by omega)), l_0]
    exact e_by22 hH eh ehm hp hl p _ _ (fun nx hnx => e_by8 hH eh ehm hp hl p r (d + 1) n m nx hnx (by omega) (by omega) (by omega)) near hx H 0 z_fu z_fu near hx (by omega) (show H < 1000 by omega) (show H < 1000 by omega)
theorem G_li_256 {H : Nat} {s m : Nat → Int32} (hH : H ≤ 8) (h : G_li H s m) : ∀ i, i < 8 → m i = s i ∧ ∃ n, n < 256 ∧ s i = nI n := fun i hi => by
  obtain ⟨a, n, b, c, -⟩ := h i hi
  exact ⟨a, n, Nat.lt_of_lt_of_le b (Nat.pow_le_pow_right (n := 2) (by omega) hH), c⟩
theorem p_by0 : p_by Rel0 := by
  intro p1 p2 σ τ hR
  replace hR := Rel0_told hR
  unfold f12_by f11_by
  rw [q_let]
  generalize z_set τ 0 0 0 = τ at hR ⊢
  have hR0 := hR
  obtain ⟨⟨H, hN, hU⟩, hI, hT, hF, hC⟩ := hR
  obtain ⟨g1, g2, g3, g4, g5, g6, g7, g8, g9, g10⟩ := hN
  have hH := g1.1
  rcases g_house hH (σ := σ) (τ := τ) g1.2.1 g1.2.2.1 p1 with ⟨c1, c2⟩ | ⟨h, hh, rfl, c1, c2⟩
  · rw [c1, c2]; exact ⟨-1, σ, τ, rfl, rfl, hR0⟩
  rw [c1, c2, q_bnd, q_bnd, i_10, i_10]
  rcases g_thing p2 σ τ with ⟨d1, d2⟩ | ⟨t, ht, rfl, d1, d2⟩
  · rw [d1, d2]; exact ⟨-1, σ, τ, rfl, rfl, hR0⟩
  rw [d1, d2, q_bnd, q_bnd, i_10, i_10]
  unfold f4_flight
  rw [k_shl h (by omega), l_0]
  obtain ⟨x, e1, e2⟩ := e_by8 hH g1.2.1 g1.2.2.1 (fun h hh => (g10.2.2.2.2.1 h hh).1) (G_li_256 hH g3) (nI t) 8 0 z_fu z_fu (2 ^ h) (Nat.pow_lt_pow_right (a := 2) (by omega) (show h < 8 by omega)) (by omega) (by decide) (by decide)
  rw [e1, e2]
  exact ⟨x, σ, τ, rfl, rfl, hR0⟩
/-- the lines that leave a side -/
def lo (l : Nat → Nat) (s : Nat) : Nat → Nat
  | 0 => 0
  | k + 1 => lo l s k + if s.testBit k = true then pc (dN (l k) s) else 0
theorem lo_s {l : Nat → Nat} {s k : Nat} : lo l s (k + 1) = lo l s k + if s.testBit k = true then pc (dN (l k) s) else 0 := rfl
theorem lo_le (l : Nat → Nat) (s : Nat) : ∀ k, lo l s k ≤ 8 * k
  | 0 => Nat.le_refl 0
  | k + 1 => by
    have h1 := lo_le l s k
    have h2 := pc_le (dN (l k) s)
    unfold lo
    split <;> omega
theorem e_cut43 {H : Nat} {σ : z_M} {l : Nat → Nat} (hH : H ≤ 8) (eh : σ 1 0 = nI H) (hl : ∀ h, h < 8 → l h < 256 ∧ σ 3 h = nI (l h)) (kc : Nat → Int32 → Int32 → Int32 → Int32 → z_M → Option (Int32 × z_M)) (a b c : Int32) (s : Nat) (hs : s < 256) : ∀ (r k n : Nat), k + r = H → r < n → f4_cut_L43 kc n 1 a b c (nI s) (nI (lo l s k)) (nI k) σ = kc 1 a b (z_min c (nI (lo l s H))) (nI (s + 1)) σ
  | 0, k, n, h1, h2 => by
    obtain ⟨n, rfl⟩ : ∃ m, n = m + 1 := ⟨n - 1, by omega⟩
    obtain rfl : k = H := by omega
    unfold f4_cut_L43 f4_cut_J88
    rw [eh, if_neg (nI_nlt (by omega) (by omega)), nI_1]
  | r + 1, k, n, h1, h2 => by
    obtain ⟨n, rfl⟩ : ∃ m, n = m + 1 := ⟨n - 1, by omega⟩
    have ih := e_cut43 hH eh hl kc a b c s hs r (k + 1) n (by omega) (by omega)
    obtain ⟨l1, l2⟩ := hl k (by omega)
    unfold f4_cut_L43
    rw [eh, if_pos (nI_lt (by omega) (by omega)), k_bit s hs k (by omega), nI_1]
    rw [lo_s (k := k)] at ih
    by_cases hb : s.testBit k = true
    · rw [if_pos hb] at ih
      rw [if_pos hb, if_neg (by decide), k_cin _ (by omega) (by omega), q_ix (by omega)]
      show z_bnd (fj6_bitCount (σ 3 k &&& (nI s ^^^ -1)) σ) _ = _
      rw [l2, k_dN l1, e_bc (Nat.lt_of_le_of_lt (dN_le _ _) l1), q_bnd, nI_add]
      exact ih
    · rw [if_neg hb, Nat.add_zero] at ih
      rw [if_neg hb, if_pos rfl]
      exact ih
theorem e12_out {H : Nat} {τ : z_M} {l : Nat → Nat} (hH : H ≤ 8) (eh : τ 0 6 = nI H) (hl : ∀ h, h < 8 → l h < 256 ∧ τ 5 h = nI (l h)) (s : Nat) (hs : s < 256) : ∀ (r k n : Nat), k + r = H → r < n → f12_linesOut_L4 n (nI s) (nI (lo l s k)) (nI k) τ = some (nI (lo l s H), τ)
  | 0, k, n, h1, h2 => by
    obtain ⟨n, rfl⟩ : ∃ m, n = m + 1 := ⟨n - 1, by omega⟩
    obtain rfl : k = H := by omega
    unfold f12_linesOut_L4
    rw [eh, if_neg (nI_nlt (by omega) (by omega))]
  | r + 1, k, n, h1, h2 => by
    obtain ⟨n, rfl⟩ : ∃ m, n = m + 1 := ⟨n - 1, by omega⟩
    have ih := e12_out hH eh hl s hs r (k + 1) n (by omega) (by omega)
    obtain ⟨l1, l2⟩ := hl k (by omega)
    unfold f12_linesOut_L4
    rw [eh, if_pos (nI_lt (by omega) (by omega)), k_bit s hs k (by omega), nI_1]
    rw [lo_s (k := k)] at ih
    by_cases hb : s.testBit k = true
    · rw [if_pos hb] at ih
      rw [if_pos hb, if_pos rfl, k_cin _ (by omega) (by omega), q_ix (by omega), l2, k_dN l1, e12_onesOf (Nat.lt_of_le_of_lt (dN_le _ _) l1), q_bnd, nI_add]
      exact ih
    · rw [if_neg hb, Nat.add_zero] at ih
      rw [if_neg hb, if_neg (by decide)]
      exact ih
theorem e_part {H a b : Nat} {σ τ : z_M} {l : Nat → Nat} (hH : H ≤ 8) (ha : a < H) (hb : b < H) (hab : a ≠ b) (eh : σ 1 0 = nI H) (ehm : τ 0 6 = nI H) (hl : ∀ h, h < 8 → l h < 256 ∧ σ 3 h = nI (l h)) (hm : ∀ h, h < 8 → l h < 256 ∧ τ 5 h = nI (l h)) : ∀ (r s n m c d : Nat), s + r = 2 ^ H → r < n → r < m → (c = 64 ∧ d = 100000 ∧ s ≤ 2 ^ a) ∨ (c = d ∧ c ≤ 64) → ∃ x, f4_cut_L7 n 1 (nI a) (nI b) (nI c) (nI s) σ = some (x, σ) ∧ f12_part_L35 m (nI a) (nI b) (nI d) (nI s) τ = some (x, τ)
  | 0, s, n, m, c, d, h1, h2, h3, h4 => by
    obtain ⟨n, rfl⟩ : ∃ m, n = m + 1 := ⟨n - 1, by omega⟩
    obtain ⟨m, rfl⟩ : ∃ n, m = n + 1 := ⟨m - 1, by omega⟩
    have hp : (2 : Nat) ^ a < 2 ^ H := Nat.pow_lt_pow_right (by omega) ha
    have hq : (2 : Nat) ^ H ≤ 256 := Nat.pow_le_pow_right (n := 2) (by omega) hH
    unfold f4_cut_L7 f12_part_L35
    rw [eh, ehm, k_shl H (by omega), if_neg (nI_nlt (by omega) (by omega)), if_neg (nI_nlt (by omega) (by omega))]
    rcases h4 with h4 | h4
    · omega
    · rw [h4.1]; exact ⟨_, rfl, rfl⟩
  | r + 1, s, n, m, c, d, h1, h2, h3, h4 => by
    obtain ⟨n, rfl⟩ : ∃ m, n = m + 1 := ⟨n - 1, by omega⟩
    obtain ⟨m, rfl⟩ : ∃ n, m = n + 1 := ⟨m - 1, by omega⟩
    have hq : (2 : Nat) ^ H ≤ 256 := Nat.pow_le_pow_right (n := 2) (by omega) hH
    have hs : s < 256 := by omega
    unfold f4_cut_L7 f12_part_L35
    rw [eh, ehm, k_shl H (by omega), if_pos (nI_lt (by omega) (by omega)), if_pos (nI_lt (by omega) (by omega)), k_bit s hs a (by omega), k_bit s hs b (by omega), nI_1]
    by_cases ba : s.testBit a = true
    · by_cases bb : s.testBit b = true
      · have hne : s ≠ 2 ^ a := by
          intro e
          rw [e, t_pow] at bb
          simp at bb
          exact hab bb
        rw [if_pos ba, if_pos bb, if_pos rfl, if_pos rfl, if_neg (by decide), if_neg (by decide)]
        exact e_part hH ha hb hab eh ehm hl hm r (s + 1) n m c d (by omega) (by omega) (by omega) (by omega)
      · have hle := lo_le l s H
        rw [if_pos ba, if_neg bb, if_pos rfl, if_pos rfl, if_pos rfl, if_pos rfl]
        have e1 := e_cut43 hH eh hl (f4_cut_L7 n) (nI a) (nI b) (nI c) s hs H 0 z_fu (by omega) (show H < 1000 by omega)
        have e2 : f12_linesOut (nI s) τ = some (nI (lo l s H), τ) := e12_out hH ehm hm s hs H 0 z_fu (by omega) (show H < 1000 by omega)
        have e1 : f4_cut_L43 (f4_cut_L7 n) z_fu 1 (nI a) (nI b) (nI c) (nI s) 0 0 σ = f4_cut_L7 n 1 (nI a) (nI b) (z_min (nI c) (nI (lo l s H))) (nI (s + 1)) σ := e1
        rw [e1, e2, q_bnd, e2, q_bnd, s_min (by omega) (by omega)]
        by_cases hlt : lo l s H < d
        · rw [if_pos (nI_lt hlt (by omega))]
          have : min c (lo l s H) = lo l s H := by omega
          rw [this]
          exact e_part hH ha hb hab eh ehm hl hm r (s + 1) n m _ _ (by omega) (by omega) (by omega) (by omega)
        · rw [if_neg (nI_nlt (by omega) (by omega))]
          have : min c (lo l s H) = c := by omega
          rw [this]
          exact e_part hH ha hb hab eh ehm hl hm r (s + 1) n m c d (by omega) (by omega) (by omega) (by omega)
    · have hne : s ≠ 2 ^ a := by
        intro e
        rw [e, t_pow] at ba
        simp at ba
      rw [if_neg ba, if_neg (by decide), if_neg (by decide)]
      exact e_part hH ha hb hab eh ehm hl hm r (s + 1) n m c d (by omega) (by omega) (by omega) (by omega)
theorem p_part0 : p_part Rel0 := by
  intro p1 p2 σ τ hR
  replace hR := Rel0_told hR
  unfold f12_part f11_part f11_areTwo f11_areTwo_J25
  rw [q_let]
  generalize z_set τ 0 0 0 = τ at hR ⊢
  have hR0 := hR
  obtain ⟨⟨H, hN, hU⟩, hI, hT, hF, hC⟩ := hR
  obtain ⟨g1, g2, g3, g4, g5, g6, g7, g8, g9, g10⟩ := hN
  have hH := g1.1
  rcases g_house hH (σ := σ) (τ := τ) g1.2.1 g1.2.2.1 p1 with ⟨c1, c2⟩ | ⟨a, ha, rfl, c1, c2⟩
  · rw [c1, c2]; exact ⟨-1, σ, τ, rfl, rfl, hR0⟩
  rw [c1, c2, q_bnd, q_bnd, i_10, i_10]
  rcases g_house hH (σ := σ) (τ := τ) g1.2.1 g1.2.2.1 p2 with ⟨c1, c2⟩ | ⟨b, hb, rfl, c1, c2⟩
  · rw [c1, c2]; exact ⟨-1, σ, τ, rfl, rfl, hR0⟩
  rw [c1, c2, q_bnd, q_bnd, i_10, i_10]
  by_cases hab : a = b
  · subst hab
    rw [if_pos rfl, if_pos rfl]; exact ⟨-1, σ, τ, rfl, rfl, hR0⟩
  have hne : ¬ nI a = nI b := by rw [nI_eq (by omega) (by omega)]; exact hab
  rw [if_neg hne, if_neg hne, q_bnd, i_10]
  have hl : ∀ h, h < 8 → z_ix (σ 3 h) < 256 ∧ σ 3 h = nI (z_ix (σ 3 h)) := fun h hh => by
    obtain ⟨-, n, e1, e2⟩ := G_li_256 hH g3 h hh
    have e2 : σ 3 h = nI n := e2
    rw [e2, q_ix (by omega)]; exact ⟨e1, rfl⟩
  have hm : ∀ h, h < 8 → z_ix (σ 3 h) < 256 ∧ τ 5 h = nI (z_ix (σ 3 h)) := fun h hh => ⟨(hl h hh).1, ((G_li_256 hH g3 h hh).1).trans (hl h hh).2⟩
  have hq : (2 : Nat) ^ H ≤ 256 := Nat.pow_le_pow_right (n := 2) (by omega) hH
  unfold f4_cut
  obtain ⟨x, e1, e2⟩ := e_part hH ha hb hab g1.2.1 g1.2.2.1 hl hm (2 ^ H) 0 z_fu z_fu 64 100000 (by omega) (show _ < 1000 by omega) (show _ < 1000 by omega) (.inl ⟨rfl, rfl, Nat.zero_le _⟩)
  have e1 : f4_cut_L7 z_fu 1 (nI a) (nI b) 64 0 σ = some (x, σ) := e1
  have e2 : f12_part_L35 z_fu (nI a) (nI b) 100000 0 τ = some (x, τ) := e2
  rw [e1, e2]
  exact ⟨x, σ, τ, rfl, rfl, hR0⟩
/-- the heights -/
theorem e12_highOf {H W h : Nat} {ob d th he te wa : Nat → Int32} {τ : z_M} (hG : G_be H W ob d th he te wa (τ 1)) (hh : h < 8) : f12_highOf (nI h) τ = some (he h, τ) := by
  obtain ⟨-, -, -, -, c4, -⟩ := hG
  obtain ⟨q1, q2⟩ := c4 h hh
  unfold f12_highOf
  rw [e12_potOf' hh τ q1, q_bnd]
  rcases q2 with q2 | ⟨r1, ⟨t, ht, r2⟩, r3, r4, r5, r6, r7, r8⟩
  · rw [if_pos q2.1, q2.2.1]
  · rw [if_neg (by rw [r2]; exact q_neg (by omega)), l_76, nI_add, k_cin _ (by omega) (by omega), q_ix (by omega), r6]
def xr (f : Nat → Int32) : Nat → Int32
  | 0 => 0
  | k + 1 => xr f k ^^^ f k
theorem e4_leftL {H : Nat} {σ : z_M} (hH : H ≤ 8) (eh : σ 1 0 = nI H) (v : Int32) : ∀ (r k n : Nat), k + r = H → r < n → f4_leftOf_L13 n 1 (v ^^^ xr (σ 21) k) (nI k) σ = some (v ^^^ xr (σ 21) H, σ)
  | 0, k, n, h1, h2 => by
    obtain ⟨n, rfl⟩ : ∃ m, n = m + 1 := ⟨n - 1, by omega⟩
    obtain rfl : k = H := by omega
    unfold f4_leftOf_L13
    rw [eh, if_neg (nI_nlt (by omega) (by omega))]
  | r + 1, k, n, h1, h2 => by
    obtain ⟨n, rfl⟩ : ∃ m, n = m + 1 := ⟨n - 1, by omega⟩
    have ih := e4_leftL hH eh v r (k + 1) n (by omega) (by omega)
    unfold f4_leftOf_L13
    rw [eh, if_pos (nI_lt (by omega) (by omega)), k_cin _ (by omega) (by omega), q_ix (by omega), nI_1, Int32.xor_assoc]
    exact ih
theorem e4_left {H h : Nat} {σ : z_M} (hH : H ≤ 8) (eh : σ 1 0 = nI H) (hh : h < 8) : f4_leftOf 1 (nI h) σ = some (σ 21 h ^^^ xr (σ 21) H, σ) := by
  unfold f4_leftOf
  rw [k_cin _ hh (by omega), q_ix (by omega)]
  have e := e4_leftL hH eh (σ 21 h) H 0 z_fu (by omega) (show H < 1000 by omega)
  rw [show xr (σ 21) 0 = 0 from rfl, Int32.xor_zero] at e
  exact e
theorem e12_gameL {H W : Nat} {ob d th he te wa : Nat → Int32} {τ : z_M} (hG : G_be H W ob d th he te wa (τ 1)) (hH : H ≤ 8) (eh : τ 0 6 = nI H) (p : Int32) : ∀ (r k n : Nat), k + r = H → r < n → f12_game_L21 n p (xr he k) (nI k) τ = f12_game_J43 p (xr he H) τ
  | 0, k, n, h1, h2 => by
    obtain ⟨n, rfl⟩ : ∃ m, n = m + 1 := ⟨n - 1, by omega⟩
    obtain rfl : k = H := by omega
    unfold f12_game_L21
    rw [eh, if_neg (nI_nlt (by omega) (by omega))]
  | r + 1, k, n, h1, h2 => by
    obtain ⟨n, rfl⟩ : ∃ m, n = m + 1 := ⟨n - 1, by omega⟩
    have ih := e12_gameL hG hH eh p r (k + 1) n (by omega) (by omega)
    unfold f12_game_L21
    rw [eh, if_pos (nI_lt (by omega) (by omega)), e12_highOf hG (by omega), q_bnd, nI_1]
    exact ih
theorem e_game {H W : Nat} {σ τ : z_M} {ob d th te wa : Nat → Int32} (hG : G_be H W ob d th (σ 21) te wa (τ 1)) (hH : H ≤ 8) (eh : σ 1 0 = nI H) (ehm : τ 0 6 = nI H) (p : Int32) : ∀ (r k n m : Nat), k + r = H → r < n → r < m → (f4_winningPot_L2 n 1 (nI k) σ = some (-1, σ) ∧ f12_game_L45 m p (xr (σ 21) H) (nI k) τ = some (-1, τ)) ∨ ∃ h, h < H ∧ f4_winningPot_L2 n 1 (nI k) σ = some (nI h, σ) ∧ f12_game_L45 m p (xr (σ 21) H) (nI k) τ = some (if p = 0 then nI h else σ 21 h ^^^ xr (σ 21) H, τ)
  | 0, k, n, m, h1, h2, h3 => by
    obtain ⟨n, rfl⟩ : ∃ m, n = m + 1 := ⟨n - 1, by omega⟩
    obtain ⟨m, rfl⟩ : ∃ n, m = n + 1 := ⟨m - 1, by omega⟩
    left
    unfold f4_winningPot_L2 f12_game_L45
    rw [eh, ehm, if_neg (nI_nlt (by omega) (by omega)), if_neg (nI_nlt (by omega) (by omega))]
    exact ⟨rfl, rfl⟩
  | r + 1, k, n, m, h1, h2, h3 => by
    obtain ⟨n, rfl⟩ : ∃ m, n = m + 1 := ⟨n - 1, by omega⟩
    obtain ⟨m, rfl⟩ : ∃ n, m = n + 1 := ⟨m - 1, by omega⟩
    unfold f4_winningPot_L2 f12_game_L45
    rw [eh, ehm, if_pos (nI_lt (by omega) (by omega)), if_pos (nI_lt (by omega) (by omega)), e4_left hH eh (by omega), q_bnd, e12_highOf hG (by omega), q_bnd, e12_highOf hG (by omega), q_bnd, k_cin _ (by omega) (by omega), q_ix (by omega), nI_1]
    show ((if σ 21 k ^^^ xr (σ 21) H < σ 21 k then some (nI k, σ) else f4_winningPot_L2 n 1 (nI (k + 1)) σ) = some (-1, σ) ∧ _) ∨ ∃ h, h < H ∧ (if σ 21 k ^^^ xr (σ 21) H < σ 21 k then some (nI k, σ) else f4_winningPot_L2 n 1 (nI (k + 1)) σ) = some (nI h, σ) ∧ _
    by_cases hlt : σ 21 k ^^^ xr (σ 21) H < σ 21 k
    · right
      refine ⟨k, by omega, if_pos hlt, ?_⟩
      rw [if_pos hlt]
      unfold f12_game_J68
      rw [e12_highOf hG (by omega), q_bnd]
      split <;> rfl
    · rw [if_neg hlt, if_neg hlt]
      exact e_game hG hH eh ehm p r (k + 1) n m (by omega) (by omega) (by omega)
theorem p_game0 : p_game Rel0 := by
  intro p1 σ τ hR
  replace hR := Rel0_told hR
  unfold f12_game f11_game
  rw [q_let]
  generalize z_set τ 0 0 0 = τ at hR ⊢
  have hR0 := hR
  obtain ⟨⟨H, hN, hU⟩, hI, hT, hF, hC⟩ := hR
  obtain ⟨g1, g2, g3, g4, g5, g6, g7, g8, g9, g10⟩ := hN
  have hH := g1.1
  rcases g_in p1 0 1 0 1 rfl rfl (by omega) (by omega) τ with ⟨n1 | ⟨n1, n2⟩, e⟩ | ⟨y, -, hy, hp, n1, n2, e⟩
  · rw [if_pos n1, e]; exact ⟨-1, σ, τ, rfl, rfl, hR0⟩
  · rw [if_neg n1, if_pos n2, e]; exact ⟨-1, σ, τ, rfl, rfl, hR0⟩
  rw [if_neg n1, if_neg n2, e, q_bnd, i_10]
  have e1 : f12_game_L21 z_fu p1 0 0 τ = f12_game_J43 p1 (xr (σ 21) H) τ := e12_gameL g10 hH g1.2.2.1 p1 H 0 z_fu (by omega) (show H < 1000 by omega)
  rw [e1]
  unfold f12_game_J43 f4_winningPot
  rcases e_game g10 hH g1.2.1 g1.2.2.1 p1 H 0 z_fu z_fu (by omega) (show H < 1000 by omega) (show H < 1000 by omega) with ⟨a, b⟩ | ⟨h, hh, a, b⟩
  · have a : f4_winningPot_L2 z_fu 1 0 σ = some (-1, σ) := a
    have b : f12_game_L45 z_fu p1 (xr (σ 21) H) 0 τ = some (-1, τ) := b
    rw [a, b, q_bnd]
    refine ⟨-1, σ, τ, ?_, rfl, hR0⟩
    split
    · rfl
    · rw [if_pos rfl]
  · have a : f4_winningPot_L2 z_fu 1 0 σ = some (nI h, σ) := a
    have b : f12_game_L45 z_fu p1 (xr (σ 21) H) 0 τ = some (if p1 = 0 then nI h else σ 21 h ^^^ xr (σ 21) H, τ) := b
    rw [a, b, q_bnd]
    refine ⟨_, σ, τ, ?_, rfl, hR0⟩
    split
    · rfl
    · rw [if_neg (q_neg (by omega)), e4_left hH g1.2.1 (by omega), q_bnd]
/-- done -/
theorem e_done {H n : Nat} {σ τ : z_M} (hH : H ≤ 8) (hn : n ≤ 12) (ec : σ 10 2 = nI n) (em : τ 0 38 = nI n) (hd : ∀ i, i < 64 → τ 1 (4 + i) = σ 19 i - 50) (hl : ∀ i, i < n → (τ 18 (3 * i) = σ 11 (5 * i) ∧ τ 18 (3 * i + 1) = σ 11 (5 * i + 1) ∧ τ 18 (3 * i + 2) = σ 11 (5 * i + 2)) ∧ (∃ h, h < H ∧ σ 11 (5 * i) = nI h) ∧ (σ 11 (5 * i + 1) = 0 ∨ σ 11 (5 * i + 1) = 1) ∧ ∃ t, t < 8 ∧ σ 11 (5 * i + 2) = nI t) : ∀ (r k f g : Nat) (a : Int32), k + r = n → r < f → r < g → ∃ x, f6_worksDone_L4 f 1 a (nI k) σ = some (x, σ) ∧ f12_done_L9 g a (nI k) τ = some (x, τ)
  | 0, k, f, g, a, h1, h2, h3 => by
    obtain ⟨f, rfl⟩ : ∃ m, f = m + 1 := ⟨f - 1, by omega⟩
    obtain ⟨g, rfl⟩ : ∃ m, g = m + 1 := ⟨g - 1, by omega⟩
    have ec : σ (1 + 9) 2 = nI n := ec
    unfold f6_worksDone_L4 f12_done_L9
    rw [ec, em, if_neg (nI_nlt (by omega) (by omega)), if_neg (nI_nlt (by omega) (by omega))]
    exact ⟨_, rfl, rfl⟩
  | r + 1, k, f, g, a, h1, h2, h3 => by
    obtain ⟨f, rfl⟩ : ∃ m, f = m + 1 := ⟨f - 1, by omega⟩
    obtain ⟨g, rfl⟩ : ∃ m, g = m + 1 := ⟨g - 1, by omega⟩
    have ec' : σ (1 + 9) 2 = nI n := ec
    obtain ⟨⟨m0, m1, m2⟩, ⟨h, hh, e0⟩, e1, t, ht, e2⟩ := hl k (by omega)
    have a0 : f9_at (1 + 9) (nI k) 0 σ = some (nI h, σ) := by
      rw [l_0, e9_at (N := 60) rfl (by omega) (by omega)]; rw [← e0]; rfl
    have a1 : f9_at (1 + 9) (nI k) 1 σ = some (σ 11 (5 * k + 1), σ) := by
      rw [l_1, e9_at (N := 60) rfl (by omega) (by omega)]
    have a2 : f9_at (1 + 9) (nI k) 2 σ = some (nI t, σ) := by
      rw [l_2, e9_at (N := 60) rfl (by omega) (by omega)]; rw [← e2]
    unfold f6_worksDone_L4 f12_done_L9 f6_worksDone_J54 f6_worksDone_J72
    rw [ec', em, if_pos (nI_lt (by omega) (by omega)), if_pos (nI_lt (by omega) (by omega)), a0, q_bnd, a2, q_bnd, e0_degreeOf (by omega) ht, q_bnd, a1, q_bnd, q_bnd]
    have i0 : 3 * nI k = nI (3 * k) := by rw [l_3, pk_mul]
    have i1 : nI (3 * k) + 1 = nI (3 * k + 1) := nI_1 _
    have i2 : nI (3 * k) + 2 = nI (3 * k + 2) := by rw [l_2, nI_add]
    rw [i0, i1, i2, nI_1, k_cin _ (by omega) (by omega), q_ix (by omega), m0, e0, e12_suresOf (by omega) τ hd, q_bnd, k_cin _ (by omega) (by omega), k_cin _ (by omega) (by omega), q_ix (by omega), q_ix (by omega), m2, m1, e2, k_bit _ (sN_lt _ _) t ht, sN_bit ht]
    have ih := fun b => e_done hH hn ec em hd hl r (k + 1) f g b (by omega) (by omega) (by omega)
    by_cases hdg : σ 19 (8 * h + t) < 90
    · have hdg' : σ (1 + 17 + 1) (8 * h + t) < 90 := hdg
      rw [if_pos hdg', decide_eq_true hdg]
      rcases e1 with e1 | e1
      · rw [e1, if_neg (by decide), if_pos rfl, if_pos (by decide)]; exact ih _
      · rw [e1, if_pos rfl, if_neg (by decide), if_neg (by decide)]; exact ih _
    · have hdg' : ¬ σ (1 + 17 + 1) (8 * h + t) < 90 := hdg
      rw [if_neg hdg', decide_eq_false hdg]
      rcases e1 with e1 | e1
      · rw [e1, if_neg (by decide), if_neg (by decide), if_neg (by decide)]; exact ih _
      · rw [e1, if_pos rfl, if_pos rfl, if_pos (by decide)]; exact ih _
theorem p_done0 : p_done Rel0 := by
  intro σ τ hR
  replace hR := Rel0_told hR
  unfold f12_done f11_done f6_worksDone
  rw [q_let]
  generalize z_set τ 0 0 0 = τ at hR ⊢
  have hR0 := hR
  obtain ⟨⟨H, hN, hU⟩, hI, hT, hF, hC⟩ := hR
  obtain ⟨g1, g2, g3, g4, g5, g6, g7, g8, g9, g10⟩ := hN
  obtain ⟨n, hn, e1, e2, hl⟩ := g6
  obtain ⟨x, a, b⟩ := e_done g1.1 hn e1 e2 (fun i hi => (g10.2.2.2.1 i hi).1) hl n 0 z_fu z_fu 0 (by omega) (show n < 1000 by omega) (show n < 1000 by omega)
  have a : f6_worksDone_L4 z_fu 1 0 0 σ = some (x, σ) := a
  have b : f12_done_L9 z_fu 0 0 τ = some (x, τ) := b
  rw [a, b]
  exact ⟨x, σ, τ, rfl, rfl, hR0⟩
