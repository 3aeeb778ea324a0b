/-! a token, on both sides -/
def ixc (x : Int32) : Nat → Nat → Int32
  | 0, _ => -1
  | r + 1, k => if z_by 1 k = x then nI k else ixc x r (k + 1)
theorem ixc_s {x : Int32} {r k : Nat} : ixc x (r + 1) k = if z_by 1 k = x then nI k else ixc x r (k + 1) := rfl
theorem e_ixc {x : Int32} (σ : z_M) : ∀ r k m, k + r = 10 → r < m → fj1_indexOfChar_L7 m 1 (nI 10) x (nI k) σ = some (ixc x r k, σ)
  | 0, k, m, h1, h2 => by
    obtain ⟨m, rfl⟩ : ∃ k, m = k + 1 := ⟨m - 1, by omega⟩
    unfold fj1_indexOfChar_L7
    rw [if_neg (nI_nlt (by omega) (by omega))]; rfl
  | r + 1, k, m, h1, h2 => by
    obtain ⟨m, rfl⟩ : ∃ k, m = k + 1 := ⟨m - 1, by omega⟩
    conv => lhs; unfold fj1_indexOfChar_L7
    rw [if_pos (nI_lt (by omega) (by omega)), show z_sn 1 = 10 from rfl, k_cin _ (by omega) (by omega), q_ix (by omega), nI_1, e_ixc σ r (k + 1) m (by omega) (by omega), ixc_s]
    split <;> rfl
def sg (j : Nat) : Nat := ([59, 43, 45, 42, 47, 40, 41, 60, 61, 62] : List Nat).getD j 0
def mk (b : Nat) : Bool := ([59, 43, 45, 42, 47, 40, 41, 60, 61, 62] : List Nat).elem b
def sgk (b : Nat) : Int32 := if 0 < cb b then (if ixc (nI b) 10 0 < 0 then 44 else 32 + ixc (nI b) 10 0) else 44
theorem v_sg : ∀ b, b < 256 → (mk b = false ∧ sgk b = 44) ∨ (mk b = true ∧ ∃ j, j < 10 ∧ (sgk b = nI (32 + j) ∧ b = sg j)) := by decide +kernel
theorem v_sc : ∀ b, b < 256 → 0 < cb b → ((cb b).toUInt32 % 65536).toInt32 = nI b ∧ ¬ nI b < 0 ∧ ¬ 255 < nI b ∧ (nI b).toInt8.toInt32 = nI b := by decide +kernel
theorem v_10 : z_shr (nI (z_sn 1)) 0 = nI 10 ∧ z_max 0 0 < z_min (nI 10) (nI (z_sn 1)) ∧ z_max (0 : Int32) 0 = nI 0 ∧ z_min (nI 10) (nI (z_sn 1)) = nI 10 := by decide +kernel
theorem e8_sign {b : Nat} (hb : b < 256) (σ : z_M) : f8_signOf (cb b) σ = some (sgk b, σ) := by
  unfold f8_signOf sgk
  by_cases q : 0 < cb b
  · obtain ⟨a1, a2, a3, a4⟩ := v_sc b hb q
    obtain ⟨d1, d2, d3, d4⟩ := v_10
    rw [if_pos q, if_pos q, a1]
    unfold fj0_indexOf fj0_indexOf2 fj0_isLatin1 fj0_length fj0_coder fj1_indexOf fj1_canEncode fj1_indexOfChar
    rw [q_bnd, i_10, q_bnd, q_bnd, d1, if_neg a2, if_neg a3, q_bnd, i_10, if_pos d2, d3, d4, a4, e_ixc σ 10 0 z_fu (by omega) (by decide), q_bnd, q_bnd, q_bnd, q_bnd]
    unfold f8_signOf_J15
    split <;> rfl
  · rw [if_neg q, if_neg q]; rfl
theorem v_mk : ∀ b, b < 256 → (if nI b = 59 then (1 : Int32) else if nI b = 43 then 1 else if nI b = 45 then 1 else if nI b = 42 then 1 else if nI b = 47 then 1 else if nI b = 40 then 1 else if nI b = 41 then 1 else if nI b = 60 then 1 else if nI b = 61 then 1 else if nI b = 62 then 1 else 0) = if mk b = true then 1 else 0 := by decide +kernel
theorem e12_mark {b : Nat} (hb : b < 256) (τ : z_M) : f12_isMarkSign (nI b) τ = some (if mk b = true then 1 else 0, τ) := by
  rw [← v_mk b hb]
  unfold f12_isMarkSign
  repeat' split
  all_goals first | rfl | contradiction
/-- a token of the class (kind, value, place) and one of the reference (kind, value, where it began) -/
def TokR (k v pl t w fr : Int32) : Prop := fr = pl ∧ ((k = 43 ∧ t = 0) ∨ (k = 44 ∧ t = 1) ∨ (k = 42 ∧ t = 3 ∧ ∃ x, x < 10000 ∧ v = nI x ∧ w = nI x) ∨ (∃ j, j < 28 ∧ k = nI j ∧ t = 2 ∧ w = nI (wp j)) ∨ ∃ j, j < 10 ∧ k = nI (32 + j) ∧ t = 4 ∧ w = nI (sg j))
def MF (τ τ' : z_M) : Prop := (∀ c, c ≠ 0 → τ' c = τ c) ∧ ∀ k, k < 15 ∨ 18 < k → τ' 0 k = τ 0 k
theorem MF_refl (τ : z_M) : MF τ τ := ⟨fun _ _ => rfl, fun _ _ => rfl⟩
theorem MF_trans {τ τ' τ'' : z_M} (h : MF τ τ') (g : MF τ' τ'') : MF τ τ'' := ⟨fun c a => (g.1 c a).trans (h.1 c a), fun k a => (g.2 k a).trans (h.2 k a)⟩
theorem MF_set {τ : z_M} {k : Nat} {v : Int32} (hk : 15 ≤ k ∧ k ≤ 18) : MF τ (z_set τ 0 k v) := ⟨fun c a => s_ne a, fun j a => s_kn (by omega)⟩
theorem TM_MF {n : Nat} {b : Nat → Nat} {τ τ' : z_M} (h : TM n b τ) (m : MF τ τ') : TM n b τ' := by
  obtain ⟨h1, h2, h3⟩ := h
  exact ⟨h1, by rw [m.2 14 (by omega)]; exact h2, fun k hk => by rw [m.1 7 (by omega)]; exact h3 k hk⟩
theorem r_L95 {n : Nat} {b : Nat → Nat} : ∀ r p m (τ : z_M), p + r = n → r < m → TM n b τ → τ 0 15 = nI p → ∃ τ', f12_reads_L95 m τ = f12_reads_J123 τ' ∧ τ' 0 15 = nI (run (fun k => isL (b k)) r p) ∧ (∀ c, c ≠ 0 → τ' c = τ c) ∧ ∀ k, k ≠ 15 → τ' 0 k = τ 0 k
  | 0, p, m, τ, h1, h2, h, h15 => by
    obtain ⟨m, rfl⟩ : ∃ k, m = k + 1 := ⟨m - 1, by omega⟩
    obtain rfl : p = n := by omega
    refine ⟨τ, ?_, h15, fun _ _ => rfl, fun _ _ => rfl⟩
    unfold f12_reads_L95
    rw [h15, e12_raw_end h, q_bnd, e12_isLetter_end, q_bnd, i_00]
  | r + 1, p, m, τ, h1, h2, h, h15 => by
    obtain ⟨m, rfl⟩ : ∃ k, m = k + 1 := ⟨m - 1, by omega⟩
    have hb := (h.2.2 p (by omega)).1
    have hs : f12_reads_L95 (m + 1) τ = if isL (b p) = true then f12_reads_L95 m (z_set τ 0 15 (nI (p + 1))) else f12_reads_J123 τ := by
      conv => lhs; unfold f12_reads_L95
      rw [h15, e12_raw h (by omega), q_bnd, e12_isLetter hb, q_bnd, h15, nI_1, q_let]
      cases isL (b p) <;> rfl
    rw [hs, run_s]
    cases e : isL (b p)
    · rw [if_neg (by decide), if_neg (by decide)]
      exact ⟨τ, rfl, h15, fun _ _ => rfl, fun _ _ => rfl⟩
    · rw [if_pos rfl, if_pos rfl]
      obtain ⟨τ', y1, y2, y3, y4⟩ := r_L95 r (p + 1) m (z_set τ 0 15 (nI (p + 1))) (by omega) (by omega) (TM_MF h (MF_set (by omega))) s_eq
      exact ⟨τ', y1, y2, fun c hc => by rw [y3 c hc, s_ne hc], fun k hk => by rw [y4 k hk, s_kn hk]⟩
theorem lt_10k {a : Nat} (h : a < 10000) : nI a < 10000 := by
  rw [Int32.lt_iff_toInt_lt, nI_toInt (by omega)]
  have : (10000 : Int32).toInt = 10000 := by decide
  omega
theorem r_L171 {n : Nat} {b : Nat → Nat} : ∀ r p m (τ : z_M), p + r = n → r < m → TM n b τ → τ 0 15 = nI p → ∃ τ', f12_reads_L171 m τ = f12_reads_J239 τ' ∧ τ' 0 15 = nI (run (fun k => isD (b k)) r p) ∧ (∀ c, c ≠ 0 → τ' c = τ c) ∧ (∀ k, k ≠ 15 → k ≠ 18 → τ' 0 k = τ 0 k) ∧ ∀ a s, τ 0 18 = nI a → run (fun k => isD (b k)) r p = p + s → s ≤ 3 → a < 10 ^ (4 - s) → τ' 0 18 = nI (dg b s p a)
  | 0, p, m, τ, h1, h2, h, h15 => by
    obtain ⟨m, rfl⟩ : ∃ k, m = k + 1 := ⟨m - 1, by omega⟩
    obtain rfl : p = n := by omega
    refine ⟨τ, ?_, h15, fun _ _ => rfl, fun _ _ _ => rfl, fun a s e1 e2 _ _ => ?_⟩
    · unfold f12_reads_L171
      rw [h15, e12_raw_end h, q_bnd, e12_isDigit_end, q_bnd, i_00]
    · have e2 : p = p + s := e2
      obtain rfl : s = 0 := by omega
      exact e1
  | r + 1, p, m, τ, h1, h2, h, h15 => by
    obtain ⟨m, rfl⟩ : ∃ k, m = k + 1 := ⟨m - 1, by omega⟩
    have hb := (h.2.2 p (by omega)).1
    have e15 : ∀ v, z_set τ 0 18 v 0 15 = nI p := fun v => by rw [s_kn (by omega)]; exact h15
    have hs1 : isD (b p) = true → ∃ w, f12_reads_L171 (m + 1) τ = f12_reads_L171 m (z_set (z_set τ 0 18 w) 0 15 (nI (p + 1))) ∧ (τ 0 18 < 10000 → w = 10 * τ 0 18 + nI (b p) - 48) := by
      intro e
      by_cases q : τ 0 18 < 10000
      · refine ⟨10 * τ 0 18 + nI (b p) - 48, ?_, fun _ => rfl⟩
        conv => lhs; unfold f12_reads_L171
        unfold f12_reads_J223
        rw [h15, e12_raw h (show p < n by omega), q_bnd, e12_isDigit hb, q_bnd, e, if_pos rfl, i_10, if_pos q, h15, e12_raw h (show p < n by omega), q_bnd, q_let, q_let, e15, nI_1]
      · refine ⟨τ 0 18, ?_, fun z => absurd z q⟩
        conv => lhs; unfold f12_reads_L171
        unfold f12_reads_J223
        rw [h15, e12_raw h (show p < n by omega), q_bnd, e12_isDigit hb, q_bnd, e, if_pos rfl, i_10, if_neg q, q_let, q_let, e15, nI_1]
    have hs0 : isD (b p) = false → f12_reads_L171 (m + 1) τ = f12_reads_J239 τ := by
      intro e
      conv => lhs; unfold f12_reads_L171
      rw [h15, e12_raw h (show p < n by omega), q_bnd, e12_isDigit hb, q_bnd, e, if_pos (by decide)]
    rw [run_s]
    cases e : isD (b p)
    · rw [hs0 e, if_neg (by decide)]
      refine ⟨τ, rfl, h15, fun _ _ => rfl, fun _ _ _ => rfl, fun a s e1 e2 _ _ => ?_⟩
      obtain rfl : s = 0 := by omega
      exact e1
    · obtain ⟨w, hs, hw0⟩ := hs1 e
      rw [hs, if_pos rfl]
      obtain ⟨τ', y1, y2, y3, y4, y5⟩ := r_L171 r (p + 1) m (z_set (z_set τ 0 18 w) 0 15 (nI (p + 1))) (by omega) (by omega) (TM_MF h (MF_trans (MF_set (by omega)) (MF_set (by omega)))) s_eq
      refine ⟨τ', y1, y2, fun c hc => by rw [y3 c hc, s_ne hc, s_ne hc], fun k k1 k2 => by rw [y4 k k1 k2, s_kn k1, s_kn k2], fun a s e1 e2 e3 e4 => ?_⟩
      have hle := run_le (q := fun k => isD (b k)) r (p + 1)
      obtain ⟨s, rfl⟩ : ∃ z, s = z + 1 := ⟨s - 1, by omega⟩
      have hpow : 10 ^ (4 - s) = 10 * 10 ^ (4 - (s + 1)) := by
        rw [show 4 - s = 4 - (s + 1) + 1 by omega, Nat.pow_succ, Nat.mul_comm]
      have hp4 : 10 ^ (4 - (s + 1)) ≤ 10 ^ 3 := Nat.pow_le_pow_right (by omega) (by omega)
      obtain ⟨c1, c2, c3⟩ := v_cb (b p) hb e
      have hw : w = nI (10 * a + b p - 48) := by
        rw [hw0 (by rw [e1]; exact lt_10k (by omega)), e1]
        show nI 10 * nI a + nI (b p) - nI 48 = _
        rw [pk_mul, nI_add, pk_sub (by omega)]
      exact y5 (10 * a + b p - 48) s (by rw [s_kn (by omega), s_eq]; exact hw) (by omega) (by omega) (by omega)
