/-! readers in general: where both stand, how a reader ends -/
def QF (σ σ' : z_M) : Prop := (∀ c, c ≠ 101 → σ' c = σ c) ∧ ∀ s, s ≠ 4 → σ' 101 s = σ 101 s
theorem QF_refl (σ : z_M) : QF σ σ := ⟨fun _ _ => rfl, fun _ _ => rfl⟩
theorem QF_trans {σ σ' σ'' : z_M} (h : QF σ σ') (g : QF σ' σ'') : QF σ σ'' := ⟨fun c a => (g.1 c a).trans (h.1 c a), fun c a => (g.2 c a).trans (h.2 c a)⟩
theorem QF_set {σ : z_M} {v : Int32} : QF σ (z_set σ 101 4 v) := ⟨fun _ a => s_ne a, fun _ a => s_kn a⟩
theorem XC_QF {σ σ' : z_M} (h : QF σ σ') : XC σ σ' := ⟨fun c a => h.1 c (by omega), h.2 5 (by omega), h.2 6 (by omega)⟩
def DK (σ : z_M) : Prop := ∃ c, c ≤ 400 ∧ σ 102 3 = nI c
/-- both stand at token x, no fault told -/
def Bo (n N : Nat) (b P : Nat → Nat) (K V L : Nat → Int32) (x : Nat) (σ τ : z_M) : Prop := AC N K V L x σ ∧ AM n b P K V L x τ ∧ σ 101 2 = 0
/-- both have told the same fault -/
def FA (N : Nat) (K V L : Nat → Int32) (σ τ σ' τ' : z_M) : Prop := Fa σ τ σ' τ' ∧ (∃ y, AC N K V L y σ') ∧ (DK σ → DK σ')
section
variable {n N : Nat} {b P : Nat → Nat} {K V L : Nat → Int32}
theorem FA_ne {σ τ σ' τ' : z_M} (h : FA N K V L σ τ σ' τ') : ¬ σ' 101 2 = 0 := by
  obtain ⟨⟨f, p, f1, f2, -⟩, -⟩ := h
  rw [f2]; exact f1
theorem FA_trans {σ τ σ1 τ1 σ' τ' : z_M} (hc : XC σ σ1) (hm : XM τ τ1) (hd : DK σ → DK σ1) (h : FA N K V L σ1 τ1 σ' τ') : FA N K V L σ τ σ' τ' := ⟨Fa_trans hc hm h.1, h.2.1, fun q => h.2.2 (hd q)⟩
theorem DK_QF {σ σ' : z_M} (h : QF σ σ') : DK σ → DK σ' := fun ⟨c, a, e⟩ => ⟨c, a, by rw [h.1 102 (by omega)]; exact e⟩
theorem FA_QF {σ τ σ1 τ1 σ' τ' : z_M} (hc : QF σ σ1) (hm : XM τ τ1) (h : FA N K V L σ1 τ1 σ' τ') : FA N K V L σ τ σ' τ' := FA_trans (XC_QF hc) hm (DK_QF hc) h
/-- a fault told here -/
theorem FA_here {x : Nat} {σ τ : z_M} {f p : Int32} (hc : AC N K V L x σ) (hf : ¬ f = 0) : FA N K V L σ τ (FC σ f p) (FM τ f p) := ⟨Fa_of hf (XC_refl _) (XM_refl _), ⟨x, AC_FC hc⟩, fun ⟨c, a, e⟩ => ⟨c, a, by unfold FC; rw [s_ne (by omega), s_ne (by omega)]; exact e⟩⟩
/-- the reference's memory changed behind a fault -/
theorem FA_after {σ τ σ' τ' τ'' : z_M} (h : FA N K V L σ τ σ' τ') (hm : XM τ' τ'') (h32 : τ'' 0 32 = τ' 0 32) (h33 : τ'' 0 33 = τ' 0 33) : FA N K V L σ τ σ' τ'' := by
  obtain ⟨⟨f, p, a1, a2, a3, a4, a5, a6, a7⟩, h2⟩ := h
  exact ⟨⟨f, p, a1, a2, a3, h32.trans a4, h33.trans a5, a6, XM_trans a7 hm⟩, h2⟩
theorem Bo_N {x : Nat} {σ τ : z_M} (hB : TkB n b N P K V L) (h : Bo n N b P K V L x σ τ) : x ≤ N ∧ N ≤ 400 := ⟨h.1.1, by have := hB.1; have := hB.2.1; omega⟩
theorem Bo_set {x d i : Nat} {v : Int32} {σ τ : z_M} (h : Bo n N b P K V L x σ τ) (hd : 9 ≤ d) : Bo n N b P K V L x σ (z_set τ d i v) := ⟨h.1, AM_cong h.2.1 (s_ne (by omega)) (s_ne (by omega)) (fun k _ _ => by rw [s_ne (by omega)]), h.2.2⟩
theorem Bo_set0 {x i : Nat} {v : Int32} {σ τ : z_M} (h : Bo n N b P K V L x σ τ) (hd : 19 ≤ i) : Bo n N b P K V L x σ (z_set τ 0 i v) := ⟨h.1, AM_cong h.2.1 (s_ne (by omega)) (s_ne (by omega)) (fun k _ _ => by rw [s_kn (by omega)]), h.2.2⟩
/-- one token on, on both sides -/
theorem Bo_next {x : Nat} {σ τ : z_M} (hB : TkB n b N P K V L) (h : Bo n N b P K V L x σ τ) (hk : ¬ K x = 43) : ∃ τ', f12_reads τ = some ((), τ') ∧ MF τ τ' ∧ Bo n N b P K V L (x + 1) (z_set σ 101 4 (nI (x + 1))) τ' := by
  have hlt := x_lt hB h.1.1 hk
  obtain ⟨τ', y1, y2, y3⟩ := AM_next hB h.2.1 hlt
  exact ⟨τ', y1, y2, AC_next h.1 hlt, y3, by rw [s_kn (by omega)]; exact h.2.2⟩
theorem Bo_kind {x : Nat} {σ τ : z_M} (hB : TkB n b N P K V L) (h : Bo n N b P K V L x σ τ) : f3_kind σ = some (K x, σ) := e3_kind h.1 (Bo_N hB h).2
theorem Bo_fail {x : Nat} {σ τ : z_M} (f : Int32) (hB : TkB n b N P K V L) (h : Bo n N b P K V L x σ τ) : f3_fail f (σ 101 4) σ = some ((), FC σ f (L x)) := by
  rw [h.1.2.1]
  exact e3_fail h.1 (Bo_N hB h).2 (by have := Bo_N hB h; omega) h.2.2
theorem Bo_errs {x : Nat} {σ τ : z_M} {f : Int32} (h : Bo n N b P K V L x σ τ) : f12_errs f τ = some (-1, FM τ f (L x)) := e12_errs h.2.1
theorem k43 {j : Nat} {v : Int32} (hj : j < 43) (h : v = nI j) : ¬ v = 43 := fun z => by
  rw [h] at z
  have z : nI j = nI 43 := z
  rw [nI_eq (by omega) (by omega)] at z; omega
/-- a word -/
theorem g_word {x j : Nat} {σ τ : z_M} (hB : TkB n b N P K V L) (h : Bo n N b P K V L x σ τ) (hj : j < 28) : (∃ σ' τ', K x = nI j ∧ f3_takes (nI j) σ = some ((), σ') ∧ f12_readWord (nI (wp j)) τ = some (0, τ') ∧ QF σ σ' ∧ MF τ τ' ∧ Bo n N b P K V L (x + 1) σ' τ') ∨ ∃ σ' τ', ¬ K x = nI j ∧ f3_takes (nI j) σ = some ((), σ') ∧ f12_readWord (nI (wp j)) τ = some (-1, τ') ∧ FA N K V L σ τ σ' τ' := by
  rw [e3_takes h.1 (Bo_N hB h).2 h.2.2]
  unfold f12_readWord
  rw [e12_isWord h.2.1 hj, q_bnd]
  by_cases q : K x = nI j
  · obtain ⟨τ', y1, y2, y3⟩ := Bo_next hB h (k43 (by omega) q)
    rw [if_pos q, if_pos q, i_10, y1, q_bnd]
    exact .inl ⟨_, τ', q, rfl, rfl, QF_set, y2, y3⟩
  · rw [if_neg q, if_neg q, i_00, Bo_errs h, q_bnd]
    exact .inr ⟨_, _, q, rfl, rfl, FA_here h.1 (by decide)⟩
/-- a sign -/
theorem g_sign {x j : Nat} {σ τ : z_M} (hB : TkB n b N P K V L) (h : Bo n N b P K V L x σ τ) (hj : j < 10) : (∃ σ' τ', K x = nI (32 + j) ∧ f3_takes (nI (32 + j)) σ = some ((), σ') ∧ f12_readMark (nI (sg j)) τ = some (0, τ') ∧ QF σ σ' ∧ MF τ τ' ∧ Bo n N b P K V L (x + 1) σ' τ') ∨ ∃ σ' τ', ¬ K x = nI (32 + j) ∧ f3_takes (nI (32 + j)) σ = some ((), σ') ∧ f12_readMark (nI (sg j)) τ = some (-1, τ') ∧ FA N K V L σ τ σ' τ' := by
  rw [e3_takes h.1 (Bo_N hB h).2 h.2.2]
  unfold f12_readMark
  rw [e12_isSign h.2.1 hj, q_bnd]
  by_cases q : K x = nI (32 + j)
  · obtain ⟨τ', y1, y2, y3⟩ := Bo_next hB h (k43 (by omega) q)
    rw [if_pos q, if_pos q, i_10, y1, q_bnd]
    exact .inl ⟨_, τ', q, rfl, rfl, QF_set, y2, y3⟩
  · rw [if_neg q, if_neg q, i_00, Bo_errs h, q_bnd]
    exact .inr ⟨_, _, q, rfl, rfl, FA_here h.1 (by decide)⟩
/-- a number -/
theorem g_number {x : Nat} {σ τ : z_M} (lo hi : Int32) (hB : TkB n b N P K V L) (h : Bo n N b P K V L x σ τ) : (∃ v σ' τ', v < 10000 ∧ V x = nI v ∧ ¬ nI v < lo ∧ ¬ hi < nI v ∧ f3_number lo hi σ = some (nI v, σ') ∧ f12_readNumber lo hi τ = some (nI v, τ') ∧ QF σ σ' ∧ MF τ τ' ∧ Bo n N b P K V L (x + 1) σ' τ') ∨ ∃ σ' τ', f3_number lo hi σ = some (-1, σ') ∧ f12_readNumber lo hi τ = some (-1, τ') ∧ FA N K V L σ τ σ' τ' := by
  rcases r_number (lo := lo) (hi := hi) hB h.1 h.2.1 h.2.2 with ⟨v, τ', z0, z1, z2, z3, z4, z5, z6, z7, z8⟩ | ⟨f, z1, z2, z3⟩
  · exact .inl ⟨v, _, τ', z1, z2, z3, z4, z5, z6, QF_set, z7, AC_next h.1 z0, z8, by rw [s_kn (by omega)]; exact h.2.2⟩
  · exact .inr ⟨_, _, z2, z3, FA_here h.1 z1⟩
/-- a word and a number -/
theorem g_told {x j : Nat} {σ τ : z_M} (lo hi : Int32) (hB : TkB n b N P K V L) (h : Bo n N b P K V L x σ τ) (hj : j < 28) : (∃ v σ1 σ' τ', v < 10000 ∧ ¬ nI v < lo ∧ ¬ hi < nI v ∧ f3_takes (nI j) σ = some ((), σ1) ∧ f3_number lo hi σ1 = some (nI v, σ') ∧ f12_readTold (nI (wp j)) lo hi τ = some (nI v, τ') ∧ QF σ σ' ∧ MF τ τ' ∧ Bo n N b P K V L (x + 2) σ' τ') ∨ ∃ σ1 σ' τ', f3_takes (nI j) σ = some ((), σ1) ∧ f3_number lo hi σ1 = some (-1, σ') ∧ f12_readTold (nI (wp j)) lo hi τ = some (-1, τ') ∧ FA N K V L σ τ σ' τ' := by
  unfold f12_readTold
  rcases g_word hB h hj with ⟨σ1, τ1, -, a2, a3, a4, a5, a6⟩ | ⟨σ1, τ1, -, a2, a3, a4⟩
  · rw [a3, q_bnd, if_neg (show ¬ (0 : Int32) = -1 by decide)]
    rcases g_number lo hi hB a6 with ⟨v, σ2, τ2, c1, -, c2, c3, c4, c5, c6, c7, c8⟩ | ⟨σ2, τ2, c1, c2, c3⟩
    · exact .inl ⟨v, σ1, σ2, τ2, c1, c2, c3, a2, c4, by rw [c5, q_bnd], QF_trans a4 c6, MF_trans a5 c7, c8⟩
    · exact .inr ⟨σ1, σ2, τ2, a2, c1, by rw [c2, q_bnd], FA_QF a4 (XM_MF a5) c3⟩
  · rw [a3, q_bnd, if_pos rfl]
    exact .inr ⟨σ1, σ1, τ1, a2, e3_numberF (FA_ne a4), rfl, a4⟩
/-- the line is in the draft -/
def LA (k : Nat) (a1 a2 a3 a4 a5 : Int32) (σ σ' : z_M) : Prop := XC σ σ' ∧ σ' 101 3 = σ 101 3 ∧ σ' 104 = σ 104 ∧ σ' 102 2 = nI (k + 1) ∧ (∀ s, s ≠ 2 → σ' 102 s = σ 102 s) ∧ (∀ i, i < 5 * k → σ' 103 i = σ 103 i) ∧ σ' 103 (5 * k) = a1 ∧ σ' 103 (5 * k + 1) = a2 ∧ σ' 103 (5 * k + 2) = a3 ∧ σ' 103 (5 * k + 3) = a4 ∧ σ' 103 (5 * k + 4) = a5
theorem LA_QF {k : Nat} {a1 a2 a3 a4 a5 : Int32} {σ σ1 σ' : z_M} (h : QF σ σ1) (g : LA k a1 a2 a3 a4 a5 σ1 σ') : LA k a1 a2 a3 a4 a5 σ σ' := by
  obtain ⟨g1, g2, g3, g4, g5, g6, g7⟩ := g
  exact ⟨XC_trans (XC_QF h) g1, g2.trans (h.2 3 (by omega)), g3.trans (h.1 104 (by omega)), g4, fun s a => (g5 s a).trans (by rw [h.1 102 (by omega)]), fun i a => (g6 i a).trans (by rw [h.1 103 (by omega)]), g7⟩
theorem g_finish {x k : Nat} {σ τ : z_M} (a1 a2 a3 a4 a5 : Int32) (hB : TkB n b N P K V L) (h : Bo n N b P K V L x σ τ) (hk : k < 16) (h102 : σ 102 2 = nI k) : (∃ σ' τ', f3_finish a1 a2 a3 a4 a5 σ = some ((), σ') ∧ f12_readMark 59 τ = some (0, τ') ∧ MF τ τ' ∧ Bo n N b P K V L (x + 1) σ' τ' ∧ LA k a1 a2 a3 a4 a5 σ σ') ∨ ∃ σ' τ', f3_finish a1 a2 a3 a4 a5 σ = some ((), σ') ∧ f12_readMark 59 τ = some (-1, τ') ∧ FA N K V L σ τ σ' τ' := by
  rcases r_finish (a1 := a1) (a2 := a2) (a3 := a3) (a4 := a4) (a5 := a5) hB h.1 h.2.1 h.2.2 hk h102 with ⟨σ', τ', u0, u1, u2, u3, u4, u5, u6, u7, u8, u9, u10, u11, u12⟩ | ⟨u1, u2⟩
  · exact .inl ⟨σ', τ', u1, u2, u3, ⟨u5, u4, u6.1⟩, u7, u6.2, u8, u9, u10, u11, u12⟩
  · exact .inr ⟨_, _, u1, u2, FA_here h.1 (by decide)⟩
/-- the loop over the lines, for a reader of one line -/
theorem g_loop {v1 : Int32} {mx : Nat} (f : z_M → Option (Unit × z_M)) (Lp : Nat → Int32 → z_M → Option (Int32 × z_M)) (I : Nat → Nat → z_M → z_M → Prop)
    (hcls : ∀ m k x σ τ, I k x σ τ → f3_read_L63 (m + 1) v1 (nI k) σ = if K x = 43 then some (1, σ) else z_bnd (f σ) fun _ σ6 => f3_read_L63 m v1 (nI (k + 1)) σ6)
    (hend : ∀ m k x σ τ, I k x σ τ → K x = 43 → Lp (m + 1) (nI k) τ = some (nI k, τ))
    (hline : ∀ k x σ τ, I k x σ τ → ¬ K x = 43 → (∃ σ' τ' x', k < mx ∧ f σ = some ((), σ') ∧ (∀ m, Lp (m + 1) (nI k) τ = Lp m (nI (k + 1)) τ') ∧ I (k + 1) x' σ' τ' ∧ XC σ σ' ∧ XM τ τ') ∨ ∃ σ' τ', f σ = some ((), σ') ∧ (∀ m, Lp (m + 1) (nI k) τ = some (-1, τ')) ∧ Fa σ τ σ' τ') : ∀ (r k x m m' : Nat) (σ τ : z_M), k + r = mx → r + 1 < m → r + 1 < m' → I k x σ τ → (∃ σ' τ' k' x', k' ≤ mx ∧ f3_read_L63 m v1 (nI k) σ = some (1, σ') ∧ Lp m' (nI k) τ = some (nI k', τ') ∧ I k' x' σ' τ' ∧ XC σ σ' ∧ XM τ τ') ∨ ∃ σ' τ', f3_read_L63 m v1 (nI k) σ = some (0, σ') ∧ Lp m' (nI k) τ = some (-1, τ') ∧ Fa σ τ σ' τ' := by
  intro r
  induction r with
  | zero =>
    intro k x m m' σ τ h1 hm1 hm2 hI
    obtain ⟨m, rfl⟩ : ∃ z, m = z + 2 := ⟨m - 2, by omega⟩
    obtain ⟨m', rfl⟩ : ∃ z, m' = z + 1 := ⟨m' - 1, by omega⟩
    rw [hcls (m + 1) k x σ τ hI]
    by_cases q : K x = 43
    · exact .inl ⟨σ, τ, k, x, by omega, if_pos q, hend m' k x σ τ hI q, hI, XC_refl _, XM_refl _⟩
    · rw [if_neg q]
      rcases hline k x σ τ hI q with ⟨-, -, -, hk, -⟩ | ⟨σ', τ', a1, a2, a3⟩
      · omega
      · right
        obtain ⟨f, p, f1, f2, f3⟩ := a3
        rw [a1, q_bnd, a2, e3_readF (by rw [f2]; exact f1)]
        exact ⟨σ', τ', rfl, rfl, f, p, f1, f2, f3⟩
  | succ r ih =>
    intro k x m m' σ τ h1 hm1 hm2 hI
    obtain ⟨m, rfl⟩ : ∃ z, m = z + 2 := ⟨m - 2, by omega⟩
    obtain ⟨m', rfl⟩ : ∃ z, m' = z + 1 := ⟨m' - 1, by omega⟩
    rw [hcls (m + 1) k x σ τ hI]
    by_cases q : K x = 43
    · exact .inl ⟨σ, τ, k, x, by omega, if_pos q, hend m' k x σ τ hI q, hI, XC_refl _, XM_refl _⟩
    · rw [if_neg q]
      rcases hline k x σ τ hI q with ⟨σ1, τ1, x1, -, a1, a2, a3, a4, a5⟩ | ⟨σ', τ', a1, a2, a3⟩
      · rw [a1, q_bnd, a2]
        rcases ih (k + 1) x1 (m + 1) m' σ1 τ1 (by omega) (by omega) (by omega) a3 with ⟨σ', τ', k', x', c1, c2, c3, c4, c5, c6⟩ | ⟨σ', τ', c1, c2, c3⟩
        · exact .inl ⟨σ', τ', k', x', c1, c2, c3, c4, XC_trans a4 c5, XM_trans a5 c6⟩
        · exact .inr ⟨σ', τ', c1, c2, Fa_trans a4 a5 c3⟩
      · right
        obtain ⟨f, p, f1, f2, f3⟩ := a3
        rw [a1, q_bnd, a2, e3_readF (by rw [f2]; exact f1)]
        exact ⟨σ', τ', rfl, rfl, f, p, f1, f2, f3⟩
/-- what every reader's loop needs of the class -/
theorem g_cls {v1 : Int32} {m k x mx : Nat} {σ τ : z_M} (hB : TkB n b N P K V L) (h : Bo n N b P K V L x σ τ) (hk : k ≤ mx) (hmx : mx ≤ 16) (h6 : σ 101 6 = nI mx) : f3_read_L63 (m + 1) v1 (nI k) σ = if K x = 43 then some (1, σ) else z_bnd (if v1 = 0 then f3_readReason σ else if v1 = 1 then f3_readLaw σ else if v1 = 2 then f3_readWork σ else f3_readPlan σ) fun _ σ6 => f3_read_L63 m v1 (nI (k + 1)) σ6 := by
  conv => lhs; unfold f3_read_L63
  unfold f3_read_J132
  rw [h6, if_neg (show ¬ nI mx < nI k from nI_nlt (by omega) (by omega)), if_pos h.2.2, Bo_kind hB h, q_bnd, if_pos h.2.2, nI_1]
  by_cases c0 : v1 = 0
  · rw [if_pos c0, if_pos c0]
  · rw [if_neg c0, if_neg c0]
    by_cases c1 : v1 = 1
    · rw [if_pos c1, if_pos c1]
    · rw [if_neg c1, if_neg c1]
      by_cases c2 : v1 = 2
      · rw [if_pos c2, if_pos c2]
      · rw [if_neg c2, if_neg c2]
end
