/-! readers: where both stand, and the smallest of them -/
def TkB (n : Nat) (b : Nat → Nat) (N : Nat) (P : Nat → Nat) (K V L : Nat → Int32) : Prop := n ≤ 400 ∧ N ≤ n ∧ ∀ x, x ≤ N → P x ≤ n ∧ (K x = 43 ↔ x = N) ∧ RdAt n b (P x) (P (x + 1)) (K x) (V x) (L x)
/-- the class stands at token x -/
def AC (N : Nat) (K V L : Nat → Int32) (x : Nat) (σ : z_M) : Prop := x ≤ N ∧ σ 101 4 = nI x ∧ σ 98 = K ∧ σ 99 = V ∧ σ 100 = L
/-- the reference has read token x -/
def AM (n : Nat) (b P : Nat → Nat) (K V L : Nat → Int32) (x : Nat) (τ : z_M) : Prop := TM n b τ ∧ (∀ k, k < 145 → τ 8 k = m_words k) ∧ τ 0 15 = nI (P (x + 1)) ∧ TokR (K x) (V x) (L x) (τ 0 17) (τ 0 18) (τ 0 16)
/-- the fault, told -/
def FC (σ : z_M) (f p : Int32) : z_M := z_set (z_set σ 101 2 f) 101 3 p
def FM (τ : z_M) (f p : Int32) : z_M := z_set (z_set τ 0 32 f) 0 33 p
theorem AM_next {n N x : Nat} {b P : Nat → Nat} {K V L : Nat → Int32} {τ : z_M} (hB : TkB n b N P K V L) (h : AM n b P K V L x τ) (hx : x < N) : ∃ τ', f12_reads τ = some ((), τ') ∧ MF τ τ' ∧ AM n b P K V L (x + 1) τ' := by
  obtain ⟨t1, t2, t3, t4⟩ := h
  obtain ⟨p1, p2, p3⟩ := hB.2.2 (x + 1) (by omega)
  have hn := hB.1
  obtain ⟨τ', y1, y2, y3, y4⟩ := p3 τ z_fu t1 t2 t3 (show n - P (x + 1) < 1000 by omega)
  exact ⟨τ', y1, y2, TM_MF t1 y2, fun k hk => by rw [y2.1 8 (by omega)]; exact t2 k hk, y3, y4⟩
/-- the same, where other cells have changed -/
theorem AM_cong {n x : Nat} {b P : Nat → Nat} {K V L : Nat → Int32} {τ τ' : z_M} (h : AM n b P K V L x τ) (h7 : τ' 7 = τ 7) (h8 : τ' 8 = τ 8) (h0 : ∀ k, 14 ≤ k → k ≤ 18 → τ' 0 k = τ 0 k) : AM n b P K V L x τ' := by
  obtain ⟨⟨t1, t2, t3⟩, u, v, w⟩ := h
  refine ⟨⟨t1, by rw [h0 14 (by omega) (by omega)]; exact t2, fun k hk => by rw [h7]; exact t3 k hk⟩, fun k hk => by rw [h8]; exact u k hk, by rw [h0 15 (by omega) (by omega)]; exact v, ?_⟩
  rw [h0 16 (by omega) (by omega), h0 17 (by omega) (by omega), h0 18 (by omega) (by omega)]
  exact w
theorem AC_next {N x : Nat} {K V L : Nat → Int32} {σ : z_M} (h : AC N K V L x σ) (hx : x < N) : AC N K V L (x + 1) (z_set σ 101 4 (nI (x + 1))) :=
  ⟨hx, s_eq, by rw [s_ne (by omega)]; exact h.2.2.1, by rw [s_ne (by omega)]; exact h.2.2.2.1, by rw [s_ne (by omega)]; exact h.2.2.2.2⟩
theorem e3_kind {N x : Nat} {K V L : Nat → Int32} {σ : z_M} (h : AC N K V L x σ) (hN : N ≤ 400) : f3_kind σ = some (K x, σ) := by
  obtain ⟨h1, h2, h3, -⟩ := h
  unfold f3_kind
  rw [h2, if_neg (show ¬ 400 < nI x from nI_nlt (a := 400) (b := x) (by omega) (by omega)), k_cin _ (by omega) (by omega), q_ix (by omega), h3]
theorem e3_fail {N x : Nat} {K V L : Nat → Int32} {σ : z_M} {f : Int32} {y : Nat} (h : AC N K V L x σ) (hN : N ≤ 400) (hy : y ≤ 400) (h2 : σ 101 2 = 0) : f3_fail f (nI y) σ = some ((), FC σ f (L y)) := by
  unfold f3_fail FC
  rw [if_pos h2, q_let, k_cin _ (by omega) (by omega), q_ix (by omega), s_ne (by omega), h.2.2.2.2, q_let]
theorem e3_failed {f p : Int32} {σ : z_M} (h2 : ¬ σ 101 2 = 0) : f3_fail f p σ = some ((), σ) := by
  unfold f3_fail
  rw [if_neg h2]
theorem e3_takesF {s : Int32} {σ : z_M} (h2 : ¬ σ 101 2 = 0) : f3_takes s σ = some ((), σ) := by
  unfold f3_takes
  rw [if_neg h2]
theorem e3_numberF {lo hi : Int32} {σ : z_M} (h2 : ¬ σ 101 2 = 0) : f3_number lo hi σ = some (-1, σ) := by
  unfold f3_number
  rw [if_neg h2]
theorem e3_finishF {a b c d e : Int32} {σ : z_M} (h2 : ¬ σ 101 2 = 0) : f3_finish a b c d e σ = some ((), σ) := by
  unfold f3_finish
  rw [e3_takesF h2, q_bnd, if_neg h2]
theorem FC_f {σ : z_M} {f p : Int32} (hf : ¬ f = 0) : ¬ FC σ f p 101 2 = 0 := by
  unfold FC
  rw [s_kn (by omega), s_eq]; exact hf
theorem e12_errs {n x : Nat} {b P : Nat → Nat} {K V L : Nat → Int32} {τ : z_M} {f : Int32} (h : AM n b P K V L x τ) : f12_errs f τ = some (-1, FM τ f (L x)) := by
  unfold f12_errs FM
  rw [q_let, q_let, s_kn (by omega), h.2.2.2.1]
theorem v_kw : ∀ j, j < 28 → ∀ i, i < 28 → (nI (wp j) = nI (wp i) ↔ i = j) := by decide +kernel
theorem v_ks : ∀ j, j < 10 → ∀ i, i < 10 → (nI (sg j) = nI (sg i) ↔ i = j) := by decide +kernel
theorem e12_isWord {n x j : Nat} {b P : Nat → Nat} {K V L : Nat → Int32} {τ : z_M} (h : AM n b P K V L x τ) (hj : j < 28) : f12_isWord (nI (wp j)) τ = some (if K x = nI j then 1 else 0, τ) := by
  obtain ⟨-, -, -, -, t⟩ := h
  unfold f12_isWord f12_isWord_J20
  rcases t with ⟨a, c⟩ | ⟨a, c⟩ | ⟨a, c, -⟩ | ⟨i, i1, a, c, d⟩ | ⟨i, i1, a, c, d⟩
  · rw [a, c, if_neg (by decide), if_neg (fun q => by (have q : nI 43 = nI j := q; rw [nI_eq (by omega) (by omega)] at q; omega))]
  · rw [a, c, if_neg (by decide), if_neg (fun q => by (have q : nI 44 = nI j := q; rw [nI_eq (by omega) (by omega)] at q; omega))]
  · rw [a, c, if_neg (by decide), if_neg (fun q => by (have q : nI 42 = nI j := q; rw [nI_eq (by omega) (by omega)] at q; omega))]
  · rw [a, c, d, if_pos rfl]
    by_cases q : i = j
    · rw [q, if_pos rfl, if_pos rfl]
    · rw [if_neg (fun z => q ((v_kw i i1 j hj).mp z).symm), if_neg (by rw [nI_eq (by omega) (by omega)]; exact q)]
  · rw [a, c, if_neg (by decide), if_neg (by rw [nI_eq (by omega) (by omega)]; omega)]
theorem e12_isSign {n x j : Nat} {b P : Nat → Nat} {K V L : Nat → Int32} {τ : z_M} (h : AM n b P K V L x τ) (hj : j < 10) : f12_isSign (nI (sg j)) τ = some (if K x = nI (32 + j) then 1 else 0, τ) := by
  obtain ⟨-, -, -, -, t⟩ := h
  unfold f12_isSign f12_isSign_J20
  rcases t with ⟨a, c⟩ | ⟨a, c⟩ | ⟨a, c, -⟩ | ⟨i, i1, a, c, d⟩ | ⟨i, i1, a, c, d⟩
  · rw [a, c, if_neg (by decide), if_neg (fun q => by (have q : nI 43 = nI (32 + j) := q; rw [nI_eq (by omega) (by omega)] at q; omega))]
  · rw [a, c, if_neg (by decide), if_neg (fun q => by (have q : nI 44 = nI (32 + j) := q; rw [nI_eq (by omega) (by omega)] at q; omega))]
  · rw [a, c, if_neg (by decide), if_neg (fun q => by (have q : nI 42 = nI (32 + j) := q; rw [nI_eq (by omega) (by omega)] at q; omega))]
  · rw [a, c, if_neg (by decide), if_neg (by rw [nI_eq (by omega) (by omega)]; omega)]
  · rw [a, c, d, if_pos rfl]
    by_cases q : i = j
    · rw [q, if_pos rfl, if_pos rfl]
    · rw [if_neg (fun z => q ((v_ks i i1 j hj).mp z).symm), if_neg (by rw [nI_eq (by omega) (by omega)]; omega)]
/-- a kind that is no end's lies before the end -/
theorem x_lt {n N x : Nat} {b P : Nat → Nat} {K V L : Nat → Int32} (hB : TkB n b N P K V L) (hx : x ≤ N) (hk : ¬ K x = 43) : x < N := by
  rcases Nat.lt_or_ge x N with q | q
  · exact q
  · exact absurd ((hB.2.2 x hx).2.1.mpr (by omega)) hk
theorem e3_takes {N x : Nat} {K V L : Nat → Int32} {σ : z_M} {s : Int32} (h : AC N K V L x σ) (hN : N ≤ 400) (h2 : σ 101 2 = 0) : f3_takes s σ = some ((), if K x = s then z_set σ 101 4 (nI (x + 1)) else FC σ 1 (L x)) := by
  have hx := h.1
  unfold f3_takes
  rw [if_pos h2, e3_kind h hN, q_bnd, h.2.1, e3_fail h hN (by omega) h2, q_bnd, nI_1, q_let]
  split <;> rfl
/-- a word taken, a sign taken -/
theorem r_word {n N x j : Nat} {b P : Nat → Nat} {K V L : Nat → Int32} {σ τ : z_M} (hB : TkB n b N P K V L) (hc : AC N K V L x σ) (hm : AM n b P K V L x τ) (h2 : σ 101 2 = 0) (hj : j < 28) : (∃ τ', x < N ∧ f3_takes (nI j) σ = some ((), z_set σ 101 4 (nI (x + 1))) ∧ f12_readWord (nI (wp j)) τ = some (0, τ') ∧ MF τ τ' ∧ AM n b P K V L (x + 1) τ') ∨ (f3_takes (nI j) σ = some ((), FC σ 1 (L x)) ∧ f12_readWord (nI (wp j)) τ = some (-1, FM τ 1 (L x))) := by
  have hN : N ≤ 400 := by have := hB.1; have := hB.2.1; omega
  rw [e3_takes hc hN h2]
  unfold f12_readWord
  rw [e12_isWord hm hj, q_bnd]
  by_cases q : K x = nI j
  · have hlt := x_lt hB hc.1 (fun z => by
      rw [q] at z
      have z : nI j = nI 43 := z
      rw [nI_eq (by omega) (by omega)] at z; omega)
    obtain ⟨τ', y1, y2, y3⟩ := AM_next hB hm hlt
    rw [if_pos q, if_pos q, i_10, y1, q_bnd]
    exact .inl ⟨τ', hlt, rfl, rfl, y2, y3⟩
  · rw [if_neg q, if_neg q, i_00, e12_errs hm, q_bnd]
    exact .inr ⟨rfl, rfl⟩
theorem r_sign {n N x j : Nat} {b P : Nat → Nat} {K V L : Nat → Int32} {σ τ : z_M} (hB : TkB n b N P K V L) (hc : AC N K V L x σ) (hm : AM n b P K V L x τ) (h2 : σ 101 2 = 0) (hj : j < 10) : (∃ τ', x < N ∧ f3_takes (nI (32 + j)) σ = some ((), z_set σ 101 4 (nI (x + 1))) ∧ f12_readMark (nI (sg j)) τ = some (0, τ') ∧ MF τ τ' ∧ AM n b P K V L (x + 1) τ') ∨ (f3_takes (nI (32 + j)) σ = some ((), FC σ 1 (L x)) ∧ f12_readMark (nI (sg j)) τ = some (-1, FM τ 1 (L x))) := by
  have hN : N ≤ 400 := by have := hB.1; have := hB.2.1; omega
  rw [e3_takes hc hN h2]
  unfold f12_readMark
  rw [e12_isSign hm hj, q_bnd]
  by_cases q : K x = nI (32 + j)
  · have hlt := x_lt hB hc.1 (fun z => by
      rw [q] at z
      have z : nI (32 + j) = nI 43 := z
      rw [nI_eq (by omega) (by omega)] at z; omega)
    obtain ⟨τ', y1, y2, y3⟩ := AM_next hB hm hlt
    rw [if_pos q, if_pos q, i_10, y1, q_bnd]
    exact .inl ⟨τ', hlt, rfl, rfl, y2, y3⟩
  · rw [if_neg q, if_neg q, i_00, e12_errs hm, q_bnd]
    exact .inr ⟨rfl, rfl⟩
/-- a number: either kind 42 on both sides, or on none -/
theorem AM_num {n x : Nat} {b P : Nat → Nat} {K V L : Nat → Int32} {τ : z_M} (hm : AM n b P K V L x τ) : (K x = 42 ∧ τ 0 17 = 3 ∧ ∃ v, v < 10000 ∧ V x = nI v ∧ τ 0 18 = nI v) ∨ (¬ K x = 42 ∧ ¬ τ 0 17 = 3) := by
  obtain ⟨-, -, -, -, t⟩ := hm
  rcases t with ⟨a, c⟩ | ⟨a, c⟩ | ⟨a, c, d⟩ | ⟨i, i1, a, c, d⟩ | ⟨i, i1, a, c, d⟩
  · rw [a, c]; exact .inr ⟨by decide, by decide⟩
  · rw [a, c]; exact .inr ⟨by decide, by decide⟩
  · exact .inl ⟨a, c, d⟩
  · rw [a, c]; exact .inr ⟨fun z => by (have z : nI i = nI 42 := z; rw [nI_eq (by omega) (by omega)] at z; omega), by decide⟩
  · rw [a, c]; exact .inr ⟨fun z => by (have z : nI (32 + i) = nI 42 := z; rw [nI_eq (by omega) (by omega)] at z; omega), by decide⟩
theorem r_number {n N x : Nat} {b P : Nat → Nat} {K V L : Nat → Int32} {σ τ : z_M} {lo hi : Int32} (hB : TkB n b N P K V L) (hc : AC N K V L x σ) (hm : AM n b P K V L x τ) (h2 : σ 101 2 = 0) : (∃ v τ', x < N ∧ v < 10000 ∧ V x = nI v ∧ ¬ nI v < lo ∧ ¬ hi < nI v ∧ f3_number lo hi σ = some (nI v, z_set σ 101 4 (nI (x + 1))) ∧ f12_readNumber lo hi τ = some (nI v, τ') ∧ MF τ τ' ∧ AM n b P K V L (x + 1) τ') ∨ ∃ f, ¬ f = 0 ∧ f3_number lo hi σ = some (-1, FC σ f (L x)) ∧ f12_readNumber lo hi τ = some (-1, FM τ f (L x)) := by
  have hN : N ≤ 400 := by have := hB.1; have := hB.2.1; omega
  have hx := hc.1
  unfold f3_number f3_number_J53 f12_readNumber
  rw [if_pos h2, hc.2.1, k_cin _ (by omega) (by omega), e3_kind hc hN, q_bnd, q_ix (by omega), hc.2.2.2.1, hc.2.1, e3_fail hc hN (by omega) h2, e3_fail hc hN (by omega) h2, q_bnd, q_bnd, nI_1, q_let, e12_isIn, q_bnd]
  rcases AM_num hm with ⟨a, c, v, d1, d2, d3⟩ | ⟨a, c⟩
  · have hlt := x_lt hB hx (by rw [a]; decide)
    obtain ⟨τ', y1, y2, y3⟩ := AM_next hB hm hlt
    rw [if_pos a, if_pos c, d2, d3, e12_errs hm, q_bnd, y1, q_bnd]
    by_cases q1 : nI v < lo
    · rw [if_pos q1, if_pos q1, i_00]
      exact .inr ⟨2, by decide, rfl, rfl⟩
    · by_cases q2 : hi < nI v
      · rw [if_neg q1, if_pos q2, if_neg q1, if_pos q2, i_00]
        exact .inr ⟨2, by decide, rfl, rfl⟩
      · rw [if_neg q1, if_neg q2, if_neg q1, if_neg q2, i_10]
        exact .inl ⟨v, τ', hlt, d1, rfl, q1, q2, rfl, rfl, y2, y3⟩
  · rw [if_neg a, if_neg c, e12_errs hm, q_bnd]
    exact .inr ⟨1, by decide, rfl, rfl⟩
