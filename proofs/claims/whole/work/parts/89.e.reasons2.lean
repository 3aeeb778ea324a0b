/-! reasons, line by line -/
section
variable {n N : Nat} {b P : Nat → Nat} {K V L : Nat → Int32}
theorem e3_num {x : Nat} {lo hi : Int32} {σ τ : z_M} (hB : TkB n b N P K V L) (h : Bo n N b P K V L x σ τ) : f3_number lo hi σ = if K x = 42 then (if V x < lo then some (-1, FC σ 2 (L x)) else if hi < V x then some (-1, FC σ 2 (L x)) else some (V x, z_set σ 101 4 (nI (x + 1)))) else some (-1, FC σ 1 (L x)) := by
  obtain ⟨hx, hN⟩ := Bo_N hB h
  unfold f3_number f3_number_J53
  rw [if_pos h.2.2, h.1.2.1, k_cin _ (by omega) (by omega), Bo_kind hB h, q_bnd, q_ix (by omega), h.1.2.2.2.1, h.1.2.1, e3_fail h.1 hN (by omega) h.2.2, e3_fail h.1 hN (by omega) h.2.2, q_bnd, q_bnd, nI_1, q_let]
theorem n_lt8 {v : Nat} (hv : v < 10000) : (nI v < 8 ↔ v < 8) := ⟨fun q => by
    rcases Nat.lt_or_ge v 8 with c | c
    · exact c
    · exact absurd q (nI_nlt (a := v) (b := 8) (by omega) (by omega)), fun q => nI_lt (a := v) (b := 8) (by omega) (by omega)⟩
theorem n_gt7 {v : Nat} (hv : v < 10000) : (7 < nI v ↔ ¬ v < 8) := ⟨fun q c => absurd q (nI_nlt (a := 7) (b := v) (by omega) (by omega)), fun q => nI_lt (a := 7) (b := v) (by omega) (by omega)⟩
theorem n_lt0 {v : Nat} (hv : v < 10000) : ¬ nI v < 0 := nI_pos (by omega)
/-- another thing than t: on both sides, or the same fault; m the bits told so far -/
theorem r_another {x t i m : Nat} {σ τ : z_M} (hB : TkB n b N P K V L) (h : Bo n N b P K V L x σ τ) (ht : t < 8) (hi : i + 1 < 96) (h17 : τ 17 i = nI t) (hmm : τ 17 (i + 1) = nI m) : (∃ v σ' τ', v < 8 ∧ f3_another (nI t) σ = some (nI v, σ') ∧ f12_readOther (nI i) τ = some (0, τ') ∧ QF σ σ' ∧ MF (z_set τ 17 (i + 1) (nI (m ||| 2 ^ v))) τ' ∧ Bo n N b P K V L (x + 1) σ' τ') ∨ ∃ r σ' τ', f3_another (nI t) σ = some (r, σ') ∧ f12_readOther (nI i) τ = some (-1, τ') ∧ FA N K V L σ τ σ' τ' := by
  obtain ⟨hx, hN⟩ := Bo_N hB h
  unfold f3_another f12_readOther f12_readOther_J36
  rw [e3_num hB h, Bo_errs h, q_bnd, Bo_errs h, q_bnd]
  rcases AM_num h.2.1 with ⟨a, c, v, d1, d2, d3⟩ | ⟨a, c⟩
  · rw [if_pos a, if_pos c, d2, d3, if_neg (n_lt0 d1)]
    by_cases q1 : v < 8
    · have hlt := x_lt hB hx (by rw [a]; decide)
      rw [if_neg (fun z => (n_gt7 d1).mp z q1), q_bnd, s_kn (by omega), if_pos h.2.2, if_pos ((n_lt8 d1).mpr q1), k_cin _ (by omega) (by omega), q_ix (by omega), h17]
      by_cases q2 : nI v = nI t
      · right
        rw [if_pos q2, if_pos q2, h.1.2.1, e3_fail (AC_next h.1 hlt) hN (by omega) (by rw [s_kn (by omega)]; exact h.2.2), q_bnd]
        exact ⟨_, _, _, rfl, rfl, FA_QF QF_set (XM_refl _) (FA_here (AC_next h.1 hlt) (by decide))⟩
      · left
        have hs : Bo n N b P K V L x σ (z_set τ 17 (i + 1) (nI (m ||| 2 ^ v))) := Bo_set h (by omega)
        obtain ⟨τ', y1, y2, y3⟩ := Bo_next hB hs (by rw [a]; decide)
        rw [if_neg q2, if_neg q2, nI_1, k_cin _ (by omega) (by omega), k_cin _ (by omega) (by omega), q_ix (by omega), hmm, k_shl v (by omega), k_or, q_let, y1, q_bnd]
        exact ⟨v, _, τ', q1, rfl, rfl, QF_set, y2, y3⟩
    · right
      rw [if_pos ((n_gt7 d1).mpr q1), q_bnd, if_neg (FC_f (by decide)), if_neg (fun z => q1 ((n_lt8 d1).mp z))]
      exact ⟨_, _, _, rfl, rfl, FA_here h.1 (by decide)⟩
  · right
    rw [if_neg a, if_neg c, q_bnd, if_neg (FC_f (by decide))]
    exact ⟨_, _, _, rfl, rfl, FA_here h.1 (by decide)⟩
/-- what a line of reasons may change of the reference -/
def ReF (k : Nat) (τ τ' : z_M) : Prop := XM τ τ' ∧ ∀ i, i ≠ 48 + 3 * k + 1 → i ≠ 48 + 3 * k + 2 → τ' 17 i = τ 17 i
theorem ReF_trans {k : Nat} {τ τ' τ'' : z_M} (h : ReF k τ τ') (g : ReF k τ' τ'') : ReF k τ τ'' := ⟨XM_trans h.1 g.1, fun i a c => (g.2 i a c).trans (h.2 i a c)⟩
theorem ReF_MF {k : Nat} {τ τ' : z_M} (h : MF τ τ') : ReF k τ τ' := ⟨XM_MF h, fun i _ _ => by rw [h.1 17 (by omega)]⟩
theorem ReF_set {k i : Nat} {v : Int32} {τ : z_M} (h : i = 48 + 3 * k + 1 ∨ i = 48 + 3 * k + 2) : ReF k τ (z_set τ 17 i v) := ⟨XM_17 (by omega), fun j a c => s_kn (by omega)⟩
theorem m_or {s v : Nat} (hs : s < 256) (hv : v < 8) : s ||| 2 ^ v < 256 := Nat.or_lt_two_pow (n := 8) hs (Nat.pow_lt_pow_right (by omega) hv)
/-- the end of a line with 'gives' -/
theorem r_gives {x t k s : Nat} {σ τ : z_M} (hB : TkB n b N P K V L) (h : Bo n N b P K V L x σ τ) (hk : k < 16) (h102 : σ 102 2 = nI k) : (∃ σ' τ' x' g, g ≤ 100 ∧ f3_readReason_J152 (nI t) (nI s) σ = some ((), σ') ∧ f12_readReason_J89 (nI (48 + 3 * k)) τ = some (0, τ') ∧ Bo n N b P K V L x' σ' τ' ∧ LA k (nI t) (nI s) (nI g) 0 0 σ σ' ∧ ReF k τ τ' ∧ τ' 17 (48 + 3 * k + 1) = τ 17 (48 + 3 * k + 1) ∧ τ' 17 (48 + 3 * k + 2) = nI g) ∨ ∃ σ' τ', f3_readReason_J152 (nI t) (nI s) σ = some ((), σ') ∧ f12_readReason_J89 (nI (48 + 3 * k)) τ = some (-1, τ') ∧ FA N K V L σ τ σ' τ' := by
  have e2 : nI (48 + 3 * k) + 2 = nI (48 + 3 * k + 2) := by show _ + nI 2 = _; rw [nI_add]
  unfold f3_readReason_J152 f12_readReason_J89
  rw [e2]
  rcases g_told (j := 16) 1 100 hB h (by omega) with ⟨v, σ1, σ2, τ2, c1, c2, c3, c4, c5, c6, c7, c8, c9⟩ | ⟨σ1, σ2, τ2, c4, c5, c6, c7⟩
  · have c4 : f3_takes 16 σ = some ((), σ1) := c4
    have c6 : f12_readTold 16 1 100 τ = some (nI v, τ2) := c6
    have hv : v ≤ 100 := by
      rcases Nat.lt_or_ge 100 v with q | q
      · exact absurd (show (100 : Int32) < nI v from nI_lt (a := 100) (b := v) (by omega) (by omega)) c3
      · exact q
    rw [c4, q_bnd, c5, q_bnd, c6, q_bnd, k_cin _ (by omega) (by omega), q_ix (by omega), q_let, k_cin _ (by omega) (by omega), s_eq, if_neg (q_neg (by omega))]
    rcases g_finish (nI t) (nI s) (nI v) 0 0 hB (Bo_set (d := 17) (i := 48 + 3 * k + 2) (v := nI v) c9 (by omega)) hk (by rw [c7.1 102 (by omega)]; exact h102) with ⟨σ3, τ3, d1, d2, d3, d4, d5⟩ | ⟨σ3, τ3, d1, d2, d3⟩
    · left
      rw [d1, q_bnd, d2, q_bnd]
      refine ⟨σ3, τ3, _, v, hv, rfl, rfl, d4, LA_QF c7 d5, ReF_trans (ReF_MF c8) (ReF_trans (ReF_set (.inr rfl)) (ReF_MF d3)), ?_, ?_⟩
      · rw [d3.1 17 (by omega), s_kn (by omega), c8.1 17 (by omega)]
      · rw [d3.1 17 (by omega), s_eq]
    · right
      rw [d1, q_bnd, d2, q_bnd]
      exact ⟨σ3, τ3, rfl, rfl, FA_QF c7 (XM_trans (XM_MF c8) (XM_17 (by omega))) d3⟩
  · right
    have c4 : f3_takes 16 σ = some ((), σ1) := c4
    have c6 : f12_readTold 16 1 100 τ = some (-1, τ2) := c6
    rw [c4, q_bnd, c5, q_bnd, c6, q_bnd, k_cin _ (by omega) (by omega), q_ix (by omega), q_let, k_cin _ (by omega) (by omega), s_eq, if_pos rfl, e3_finishF (FA_ne c7), q_bnd]
    exact ⟨_, _, rfl, rfl, FA_after c7 (XM_17 (by omega)) (by rw [s_ne (by omega)]) (by rw [s_ne (by omega)])⟩
/-- behind a thing: 'and' and another, or the line's end -/
theorem r_reasL {t k : Nat} (hB : TkB n b N P K V L) (ht : t < 8) (hk : k < 16) : ∀ (r x m q v s : Nat) (σ τ : z_M), N - x ≤ r → r < m → r < q → v ≤ x → Bo n N b P K V L x σ τ → σ 102 2 = nI k → τ 17 (48 + 3 * k) = nI t → τ 17 (48 + 3 * k + 1) = nI s → 0 < s → s < 256 → (∃ σ' τ' x' s' g, 0 < s' ∧ s' < 256 ∧ g ≤ 100 ∧ f3_readReason_L102 m (nI t) (nI s) (nI v) σ = some ((), σ') ∧ (if K x = 13 then f12_readReason_L66 q (nI (48 + 3 * k)) τ else f12_readReason_J89 (nI (48 + 3 * k)) τ) = some (0, τ') ∧ Bo n N b P K V L x' σ' τ' ∧ LA k (nI t) (nI s') (nI g) 0 0 σ σ' ∧ ReF k τ τ' ∧ τ' 17 (48 + 3 * k + 1) = nI s' ∧ τ' 17 (48 + 3 * k + 2) = nI g) ∨ ∃ σ' τ', f3_readReason_L102 m (nI t) (nI s) (nI v) σ = some ((), σ') ∧ (if K x = 13 then f12_readReason_L66 q (nI (48 + 3 * k)) τ else f12_readReason_J89 (nI (48 + 3 * k)) τ) = some (-1, τ') ∧ FA N K V L σ τ σ' τ' := by
  intro r
  induction r with
  | zero =>
    intro x m q v s σ τ hr hm hq hv h h102 h17 hs s0 s1
    obtain ⟨hx, hN⟩ := Bo_N hB h
    obtain ⟨m, rfl⟩ : ∃ z, m = z + 1 := ⟨m - 1, by omega⟩
    have e43 : K x = 43 := (hB.2.2 x hx).2.1.mpr (by omega)
    have q13 : ¬ K x = 13 := by rw [e43]; decide
    have hcl : f3_readReason_L102 (m + 1) (nI t) (nI s) (nI v) σ = f3_readReason_J152 (nI t) (nI s) σ := by
      unfold f3_readReason_L102
      rw [if_pos h.2.2, Bo_kind hB h, q_bnd, if_neg q13, ite_self]
    rw [hcl, if_neg q13]
    rcases r_gives (t := t) (s := s) hB h hk h102 with ⟨σ', τ', x', g, a1, a2, a3, a4, a5, a6, a7, a8⟩ | a
    · exact .inl ⟨σ', τ', x', s, g, s0, s1, a1, a2, a3, a4, a5, a6, a7.trans hs, a8⟩
    · exact .inr a
  | succ r ih =>
    intro x m q v s σ τ hr hm hq hv h h102 h17 hs s0 s1
    obtain ⟨hx, hN⟩ := Bo_N hB h
    obtain ⟨m, rfl⟩ : ∃ z, m = z + 1 := ⟨m - 1, by omega⟩
    obtain ⟨q, rfl⟩ : ∃ z, q = z + 1 := ⟨q - 1, by omega⟩
    by_cases q13 : K x = 13
    · have hlt := x_lt hB hx (by rw [q13]; decide)
      obtain ⟨τ1, y1, y2, y3⟩ := Bo_next hB h (by rw [q13]; decide)
      rw [if_pos q13]
      have hcl : f3_readReason_L102 (m + 1) (nI t) (nI s) (nI v) σ = z_bnd (f3_another (nI t) (z_set σ 101 4 (nI (x + 1)))) fun r4 σ5 => f3_readReason_L102 m (nI t) (nI s ||| z_shl 1 r4) (nI (v + 1)) σ5 := by
        conv => lhs; unfold f3_readReason_L102
        rw [if_pos (show nI v < 400 from nI_lt (a := v) (b := 400) (by omega) (by omega)), if_pos h.2.2, Bo_kind hB h, q_bnd, if_pos q13, h.1.2.1, nI_1, nI_1, q_let]
      rw [hcl]
      unfold f12_readReason_L66
      rw [y1, q_bnd]
      rcases r_another (i := 48 + 3 * k) (m := s) hB y3 ht (by omega) (by rw [y2.1 17 (by omega)]; exact h17) (by rw [y2.1 17 (by omega)]; exact hs) with ⟨w, σ2, τ2, a1, a2, a3, a4, a5, a6⟩ | ⟨w, σ2, τ2, a2, a3, a4⟩
      · have w5 : f12_isWord 5 τ2 = some (if K (x + 1 + 1) = 13 then 1 else 0, τ2) := e12_isWord (j := 13) a6.2.1 (by omega)
        rw [a2, q_bnd, a3, q_bnd, if_neg (show ¬ (0 : Int32) = -1 by decide), w5, q_bnd, k_shl w (by omega), k_or]
        have hsw : (if (if K (x + 1 + 1) = 13 then (1 : Int32) else 0) = 0 then f12_readReason_J89 (nI (48 + 3 * k)) τ2 else f12_readReason_L66 q (nI (48 + 3 * k)) τ2) = if K (x + 1 + 1) = 13 then f12_readReason_L66 q (nI (48 + 3 * k)) τ2 else f12_readReason_J89 (nI (48 + 3 * k)) τ2 := by
          by_cases z : K (x + 1 + 1) = 13
          · rw [if_pos z, if_pos z, i_10]
          · rw [if_neg z, if_neg z, i_00]
        rw [hsw]
        have hTF : QF σ σ2 := QF_trans QF_set a4
        have hRF : ReF k τ τ2 := ReF_trans (ReF_MF y2) (ReF_trans (ReF_set (.inl rfl)) (ReF_MF a5))
        rcases ih (x + 1 + 1) m q (v + 1) (s ||| 2 ^ w) σ2 τ2 (by omega) (by omega) (by omega) (by omega) a6 (by rw [hTF.1 102 (by omega)]; exact h102) (by rw [hRF.2 _ (by omega) (by omega)]; exact h17) (by rw [a5.1 17 (by omega), s_eq]) (Nat.lt_of_lt_of_le s0 Nat.left_le_or) (m_or s1 a1) with ⟨σ', τ', x', s', g, c1, c2, c3, c4, c5, c6, c7, c8, c9⟩ | ⟨σ', τ', c1, c2, c3⟩
        · exact .inl ⟨σ', τ', x', s', g, c1, c2, c3, c4, c5, c6, LA_QF hTF c7, ReF_trans hRF c8, c9⟩
        · exact .inr ⟨σ', τ', c1, c2, FA_QF hTF hRF.1 c3⟩
      · right
        obtain ⟨m, rfl⟩ : ∃ z, m = z + 1 := ⟨m - 1, by omega⟩
        rw [a2, q_bnd, a3, q_bnd, if_pos rfl, e3_r102F (FA_ne a4)]
        exact ⟨σ2, τ2, rfl, rfl, FA_QF QF_set (XM_MF y2) a4⟩
    · have hcl : f3_readReason_L102 (m + 1) (nI t) (nI s) (nI v) σ = f3_readReason_J152 (nI t) (nI s) σ := by
        unfold f3_readReason_L102
        rw [if_pos h.2.2, Bo_kind hB h, q_bnd, if_neg q13, ite_self]
      rw [hcl, if_neg q13]
      rcases r_gives (t := t) (s := s) hB h hk h102 with ⟨σ', τ', x', g, a1, a2, a3, a4, a5, a6, a7, a8⟩ | a
      · exact .inl ⟨σ', τ', x', s, g, s0, s1, a1, a2, a3, a4, a5, a6, a7.trans hs, a8⟩
      · exact .inr a
/-- behind the line's first thing -/
theorem r_reas40 {x t k : Nat} {σ τ : z_M} (hB : TkB n b N P K V L) (h : Bo n N b P K V L x σ τ) (ht : t < 8) (hk : k < 16) (h102 : σ 102 2 = nI k) (h17 : τ 17 (48 + 3 * k) = nI t) : (∃ σ' τ' x' s g, 0 < s ∧ s < 256 ∧ g ≤ 100 ∧ f3_readReason_J40 (nI t) σ = some ((), σ') ∧ f12_readReason (nI (48 + 3 * k)) τ = some (0, τ') ∧ Bo n N b P K V L x' σ' τ' ∧ LA k (nI t) (nI s) (nI g) 0 0 σ σ' ∧ ReF k τ τ' ∧ τ' 17 (48 + 3 * k + 1) = nI s ∧ τ' 17 (48 + 3 * k + 2) = nI g) ∨ ∃ σ' τ', f3_readReason_J40 (nI t) σ = some ((), σ') ∧ f12_readReason (nI (48 + 3 * k)) τ = some (-1, τ') ∧ FA N K V L σ τ σ' τ' := by
  obtain ⟨hx, hN⟩ := Bo_N hB h
  have e2 : nI (48 + 3 * k) + 2 = nI (48 + 3 * k + 2) := by show _ + nI 2 = _; rw [nI_add]
  have h4 : Bo n N b P K V L x σ (z_set (z_set τ 17 (48 + 3 * k + 1) 0) 17 (48 + 3 * k + 2) 0) := Bo_set (Bo_set h (by omega)) (by omega)
  have hR4 : ReF k τ (z_set (z_set τ 17 (48 + 3 * k + 1) 0) 17 (48 + 3 * k + 2) 0) := ReF_trans (ReF_set (.inl rfl)) (ReF_set (.inr rfl))
  have h174 : z_set (z_set τ 17 (48 + 3 * k + 1) 0) 17 (48 + 3 * k + 2) 0 17 (48 + 3 * k) = nI t := by rw [s_kn (by omega), s_kn (by omega)]; exact h17
  have h175 : z_set (z_set τ 17 (48 + 3 * k + 1) 0) 17 (48 + 3 * k + 2) 0 17 (48 + 3 * k + 1) = nI 0 := by rw [s_kn (by omega), s_eq]; rfl
  have h176 : z_set (z_set τ 17 (48 + 3 * k + 1) 0) 17 (48 + 3 * k + 2) 0 17 (48 + 3 * k + 2) = nI 0 := by rw [s_eq]; rfl
  unfold f3_readReason_J40 f12_readReason
  rw [if_pos h.2.2, Bo_kind hB h, q_bnd, nI_1, e2, k_cin _ (by omega) (by omega), q_ix (by omega), q_let, q_let, k_cin _ (by omega) (by omega), q_ix (by omega), q_let]
  generalize z_set (z_set τ 17 (48 + 3 * k + 1) 0) 17 (48 + 3 * k + 2) 0 = τ4 at h4 hR4 h174 h175 h176
  have w17 : f12_isWord 17 τ4 = some (if K x = 17 then 1 else 0, τ4) := e12_isWord (j := 17) h4.2.1 (by omega)
  have w15 : f12_isWord 15 τ4 = some (if K x = 15 then 1 else 0, τ4) := e12_isWord (j := 15) h4.2.1 (by omega)
  rw [w17, q_bnd]
  by_cases q17 : K x = 17
  · obtain ⟨τ5, y1, y2, y3⟩ := Bo_next hB h4 (by rw [q17]; decide)
    rw [if_pos q17, if_pos q17, i_10, y1, q_bnd, h.1.2.1, nI_1]
    rcases r_another (i := 48 + 3 * k) (m := 0) hB y3 ht (by omega) (by rw [y2.1 17 (by omega)]; exact h174) (by rw [y2.1 17 (by omega)]; exact h175) with ⟨w, σ2, τ2, a1, a2, a3, a4, a5, a6⟩ | ⟨w, σ2, τ2, a2, a3, a4⟩
    · have hTF : QF σ σ2 := QF_trans QF_set a4
      have hRF : ReF k τ τ2 := ReF_trans hR4 (ReF_trans (ReF_MF y2) (ReF_trans (ReF_set (.inl rfl)) (ReF_MF a5)))
      rw [a2, q_bnd, a3, q_bnd, if_neg (show ¬ (0 : Int32) = -1 by decide), k_shl w (by omega)]
      rcases g_finish (nI t) (nI (2 ^ w)) 0 0 0 hB a6 hk (by rw [hTF.1 102 (by omega)]; exact h102) with ⟨σ3, τ3, d1, d2, d3, d4, d5⟩ | ⟨σ3, τ3, d1, d2, d3⟩
      · left
        rw [d1, q_bnd, d2, q_bnd]
        refine ⟨σ3, τ3, _, 2 ^ w, 0, Nat.two_pow_pos w, Nat.pow_lt_pow_right (a := 2) (n := 8) (by omega) a1, by omega, rfl, rfl, d4, LA_QF hTF d5, ReF_trans hRF (ReF_MF d3), ?_, ?_⟩
        · rw [d3.1 17 (by omega), a5.1 17 (by omega), s_eq, Nat.zero_or]
        · rw [d3.1 17 (by omega), a5.1 17 (by omega), s_kn (by omega), y2.1 17 (by omega)]; exact h176
      · right
        rw [d1, q_bnd, d2, q_bnd]
        exact ⟨σ3, τ3, rfl, rfl, FA_QF hTF hRF.1 d3⟩
    · right
      rw [a2, q_bnd, a3, q_bnd, if_pos rfl, e3_finishF (FA_ne a4), q_bnd]
      exact ⟨σ2, τ2, rfl, rfl, FA_QF QF_set (XM_trans hR4.1 (XM_MF y2)) a4⟩
  · rw [if_neg q17, if_neg q17, i_00, w15, q_bnd]
    have ht15 := e3_takes (s := 15) h.1 hN h.2.2
    by_cases q15 : K x = 15
    · obtain ⟨τ5, y1, y2, y3⟩ := Bo_next hB h4 (by rw [q15]; decide)
      rw [if_pos q15] at ht15
      have efu : z_fu = 999 + 1 := rfl
      rw [if_pos q15, i_10, ht15, q_bnd]
      have hL66 : f12_readReason_L66 z_fu (nI (48 + 3 * k)) τ4 = z_bnd (f12_reads τ4) fun _ σ2 => z_bnd (f12_readOther (nI (48 + 3 * k)) σ2) fun r3 σ4 => if r3 = (-1) then some ((-1), σ4) else z_bnd (f12_isWord 5 σ4) fun r5 σ6 => if r5 = 0 then f12_readReason_J89 (nI (48 + 3 * k)) σ6 else f12_readReason_L66 999 (nI (48 + 3 * k)) σ6 := by
        rw [efu]
        conv => lhs; unfold f12_readReason_L66
      rw [hL66, y1, q_bnd]
      rcases r_another (i := 48 + 3 * k) (m := 0) hB y3 ht (by omega) (by rw [y2.1 17 (by omega)]; exact h174) (by rw [y2.1 17 (by omega)]; exact h175) with ⟨w, σ2, τ2, a1, a2, a3, a4, a5, a6⟩ | ⟨w, σ2, τ2, a2, a3, a4⟩
      · have hTF : QF σ σ2 := QF_trans QF_set a4
        have hRF : ReF k τ τ2 := ReF_trans hR4 (ReF_trans (ReF_MF y2) (ReF_trans (ReF_set (.inl rfl)) (ReF_MF a5)))
        have w5 : f12_isWord 5 τ2 = some (if K (x + 1 + 1) = 13 then 1 else 0, τ2) := e12_isWord (j := 13) a6.2.1 (by omega)
        rw [a2, q_bnd, a3, q_bnd, if_neg (show ¬ (0 : Int32) = -1 by decide), w5, q_bnd, k_shl w (by omega)]
        have hsw : (if (if K (x + 1 + 1) = 13 then (1 : Int32) else 0) = 0 then f12_readReason_J89 (nI (48 + 3 * k)) τ2 else f12_readReason_L66 999 (nI (48 + 3 * k)) τ2) = if K (x + 1 + 1) = 13 then f12_readReason_L66 999 (nI (48 + 3 * k)) τ2 else f12_readReason_J89 (nI (48 + 3 * k)) τ2 := by
          by_cases z : K (x + 1 + 1) = 13
          · rw [if_pos z, if_pos z, i_10]
          · rw [if_neg z, if_neg z, i_00]
        rw [hsw]
        rcases r_reasL hB ht hk 400 (x + 1 + 1) z_fu 999 0 (2 ^ w) σ2 τ2 (by omega) (by decide) (by omega) (by omega) a6 (by rw [hTF.1 102 (by omega)]; exact h102) (by rw [hRF.2 _ (by omega) (by omega)]; exact h17) (by rw [a5.1 17 (by omega), s_eq, Nat.zero_or]) (Nat.two_pow_pos w) (Nat.pow_lt_pow_right (a := 2) (n := 8) (by omega) a1) with ⟨σ', τ', x', s', g, c1, c2, c3, c4, c5, c6, c7, c8, c9⟩ | ⟨σ', τ', c1, c2, c3⟩
        · exact .inl ⟨σ', τ', x', s', g, c1, c2, c3, c4, c5, c6, LA_QF hTF c7, ReF_trans hRF c8, c9⟩
        · exact .inr ⟨σ', τ', c1, c2, FA_QF hTF hRF.1 c3⟩
      · right
        rw [a2, q_bnd, a3, q_bnd, if_pos rfl, efu, e3_r102F (FA_ne a4)]
        exact ⟨σ2, τ2, rfl, rfl, FA_QF QF_set (XM_trans hR4.1 (XM_MF y2)) a4⟩
    · right
      have efu : z_fu = 999 + 1 := rfl
      have hF := FC_f (σ := σ) (f := 1) (p := L x) (by decide)
      rw [if_neg q15] at ht15
      rw [if_neg q15, i_00, ht15, q_bnd, Bo_errs h4, q_bnd]
      have ha : f3_another (nI t) (FC σ 1 (L x)) = some (-1, FC σ 1 (L x)) := by
        unfold f3_another
        rw [e3_numberF hF, q_bnd, if_neg hF]
      rw [ha, q_bnd, efu, e3_r102F hF]
      exact ⟨_, _, rfl, rfl, FA_QF (QF_refl _) hR4.1 (FA_here h.1 (by decide))⟩
def DR (k : Nat) (σ τ : z_M) : Prop := ∀ i, i < k → (τ 17 (48 + 3 * i) = σ 103 (5 * i) ∧ τ 17 (48 + 3 * i + 1) = σ 103 (5 * i + 1) ∧ τ 17 (48 + 3 * i + 2) = σ 103 (5 * i + 2)) ∧ (∃ t, t < 8 ∧ σ 103 (5 * i) = nI t) ∧ (∃ s, 0 < s ∧ s < 256 ∧ σ 103 (5 * i + 1) = nI s) ∧ ∃ g, g ≤ 100 ∧ σ 103 (5 * i + 2) = nI g
/-- where the reader of reasons stands between two lines -/
def IR (n N : Nat) (b P : Nat → Nat) (K V L : Nat → Int32) (k x : Nat) (σ τ : z_M) : Prop := Bo n N b P K V L x σ τ ∧ k ≤ 16 ∧ σ 101 3 = -1 ∧ σ 101 6 = 16 ∧ σ 102 2 = nI k ∧ σ 102 3 = 0 ∧ DR k σ τ
theorem r_reason {k x : Nat} {σ τ : z_M} (hB : TkB n b N P K V L) (hI : IR n N b P K V L k x σ τ) (hend : ¬ K x = 43) : (∃ σ' τ' x', k < 16 ∧ f3_readReason σ = some ((), σ') ∧ (∀ m, f12_readReasons_L2 (m + 1) (nI k) τ = f12_readReasons_L2 m (nI (k + 1)) τ') ∧ IR n N b P K V L (k + 1) x' σ' τ' ∧ XC σ σ' ∧ XM τ τ') ∨ ∃ σ' τ', f3_readReason σ = some ((), σ') ∧ (∀ m, f12_readReasons_L2 (m + 1) (nI k) τ = some (-1, τ')) ∧ Fa σ τ σ' τ' := by
  obtain ⟨h, hk, h3, h6, h102, h0, hD⟩ := hI
  obtain ⟨hx, hN⟩ := Bo_N hB h
  have hlt := x_lt hB hx hend
  unfold f3_readReason
  rw [e3_num hB h]
  rcases AM_num h.2.1 with ⟨a, c, v, d1, d2, d3⟩ | ⟨a, c⟩
  · by_cases q1 : v < 8
    · rw [if_pos a, d2, if_neg (n_lt0 d1), if_neg (fun z => (n_gt7 d1).mp z q1), q_bnd, s_kn (by omega), if_pos h.2.2, s_ne (by omega), s_kn (by omega), h102, h6]
      by_cases k16 : k = 16
      · right
        have hlt' : ¬ nI k < 16 := nI_nlt (a := k) (b := 16) (by omega) (by omega)
        rw [if_neg hlt', h.1.2.1, e3_fail (AC_next h.1 hlt) hN (by omega) (by rw [s_kn (by omega)]; exact h.2.2), q_bnd, e3_r40F (FC_f (by decide))]
        refine ⟨_, FM τ 3 (L x), rfl, fun m => ?_, (FA_QF QF_set (XM_refl _) (FA_here (AC_next h.1 hlt) (by decide))).1⟩
        unfold f12_readReasons_L2 f12_readReasons_J31
        rw [if_pos c, d3, if_pos ((n_lt8 d1).mpr q1), if_pos (by rw [k16]; rfl), Bo_errs h, q_bnd]
      · have hk' : k < 16 := by omega
        rw [if_pos (show nI k < 16 from nI_lt (a := k) (b := 16) (by omega) (by omega))]
        have hs : Bo n N b P K V L x σ (z_set τ 17 (48 + 3 * k) (nI v)) := Bo_set h (by omega)
        obtain ⟨τ1, y1, y2, y3⟩ := Bo_next hB hs hend
        have e48 : (48 : Int32) + 3 * nI k = nI (48 + 3 * k) := by
          rw [m_3]
          show nI 48 + nI (3 * k) = _
          rw [nI_add]
        have href : ∀ m, f12_readReasons_L2 (m + 1) (nI k) τ = z_bnd (f12_readReason (nI (48 + 3 * k)) τ1) fun r5 σ6 => if r5 = (-1) then some ((-1), σ6) else f12_readReasons_L2 m (nI (k + 1)) σ6 := by
          intro m
          conv => lhs; unfold f12_readReasons_L2
          rw [if_pos c, d3, if_pos ((n_lt8 d1).mpr q1), if_neg (show ¬ nI k = 16 from fun z => by (have z : nI k = nI 16 := z; rw [nI_eq (by omega) (by omega)] at z; omega)), e48, k_cin _ (by omega) (by omega), q_ix (by omega), q_let, y1, q_bnd, nI_1]
        have hXm : XM τ τ1 := XM_trans (XM_17 (by omega)) (XM_MF y2)
        rcases r_reas40 (t := v) hB y3 q1 hk' (by rw [s_ne (by omega)]; exact h102) (by rw [y2.1 17 (by omega), s_eq]) with ⟨σ', τ', x', s, g, c1, c2, c3, c4, c5, c6, c7, c8, c9, c10⟩ | ⟨σ', τ', c1, c2, c3⟩
        · left
          obtain ⟨l1, l2, l3, l4, l5, l6, l7, l8, l9, -⟩ := LA_QF QF_set c7
          refine ⟨σ', τ', x', hk', c4, fun m => by rw [href m, c5, q_bnd, if_neg (show ¬ (0 : Int32) = -1 by decide)], ⟨c6, by omega, l2.trans h3, l1.2.2.trans h6, l4, (l5 3 (by omega)).trans h0, fun i hi => ?_⟩, l1, XM_trans hXm c8.1⟩
          by_cases ei : i = k
          · subst ei
            rw [l7, l8, l9, c9, c10, c8.2 _ (by omega) (by omega), y2.1 17 (by omega), s_eq]
            exact ⟨⟨rfl, rfl, rfl⟩, ⟨v, q1, rfl⟩, ⟨s, c1, c2, rfl⟩, g, c3, rfl⟩
          · have o : ∀ j, j < 48 + 3 * k → τ' 17 j = τ 17 j := fun j hj => by rw [c8.2 j (by omega) (by omega), y2.1 17 (by omega), s_kn (by omega)]
            rw [l6 _ (by omega), l6 _ (by omega), l6 _ (by omega), o _ (by omega), o _ (by omega), o _ (by omega)]
            exact hD i (by omega)
        · right
          exact ⟨σ', τ', c1, fun m => by rw [href m, c2, q_bnd, if_pos rfl], (FA_QF QF_set hXm c3).1⟩
    · right
      have hF := FC_f (σ := σ) (f := 2) (p := L x) (by decide)
      rw [if_pos a, d2, if_neg (n_lt0 d1), if_pos ((n_gt7 d1).mpr q1), q_bnd, if_neg hF, e3_r40F hF]
      refine ⟨_, FM τ 2 (L x), rfl, fun m => ?_, (FA_here h.1 (by decide)).1⟩
      unfold f12_readReasons_L2 f12_readReasons_J19
      rw [if_pos c, d3, if_neg (fun z => q1 ((n_lt8 d1).mp z)), Bo_errs h, q_bnd]
  · right
    have hF := FC_f (σ := σ) (f := 1) (p := L x) (by decide)
    rw [if_neg a, q_bnd, if_neg hF, e3_r40F hF]
    refine ⟨_, FM τ 1 (L x), rfl, fun m => ?_, (FA_here h.1 (by decide)).1⟩
    unfold f12_readReasons_L2 f12_readReasons_J76
    rw [if_neg c, if_neg (fun z => hend ((AM_end h.2.1).mp z)), Bo_errs h, q_bnd]
theorem r_reasons {σ τ : z_M} (hB : TkB n b N P K V L) (hI : IR n N b P K V L 0 0 σ τ) : (∃ σ' τ' k' x', k' ≤ 16 ∧ f3_read_L63 z_fu 0 0 σ = some (1, σ') ∧ f12_readReasons τ = some (nI k', τ') ∧ IR n N b P K V L k' x' σ' τ' ∧ XC σ σ' ∧ XM τ τ') ∨ ∃ σ' τ', f3_read_L63 z_fu 0 0 σ = some (0, σ') ∧ f12_readReasons τ = some (-1, τ') ∧ Fa σ τ σ' τ' := by
  refine g_loop (K := K) (v1 := 0) (mx := 16) f3_readReason f12_readReasons_L2 (IR n N b P K V L) (fun m k x σ τ h => ?_) (fun m k x σ τ h q => ?_) (fun k x σ τ h q => r_reason hB h q) 16 0 0 z_fu z_fu σ τ (by omega) (by decide) (by decide) hI
  · rw [g_cls (mx := 16) hB h.1 h.2.1 (by omega) h.2.2.2.1, if_pos (show (0 : Int32) = 0 from rfl)]
  · unfold f12_readReasons_L2 f12_readReasons_J76
    rw [if_neg (show ¬ τ 0 17 = 3 from fun z => by (rw [(AM_end h.1.2.1).mpr q] at z; exact absurd z (by decide))), if_pos ((AM_end h.1.2.1).mpr q)]
end
