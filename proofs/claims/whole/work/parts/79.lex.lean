/-! the text's bytes, on both sides -/
def cb (b : Nat) : Int32 := (nI b).toInt8.toInt32
def isL (b : Nat) : Bool := (decide (97 ≤ b) && decide (b ≤ 122)) || (decide (65 ≤ b) && decide (b ≤ 90))
def isD (b : Nat) : Bool := decide (48 ≤ b) && decide (b ≤ 57)
def run (q : Nat → Bool) : Nat → Nat → Nat
  | 0, p => p
  | r + 1, p => if q p = true then run q r (p + 1) else p
theorem run_s {q : Nat → Bool} {r p : Nat} : run q (r + 1) p = if q p = true then run q r (p + 1) else p := rfl
theorem run_le {q : Nat → Bool} : ∀ r p, p ≤ run q r p ∧ run q r p ≤ p + r
  | 0, p => ⟨Nat.le_refl _, Nat.le_refl _⟩
  | r + 1, p => by
    rw [run_s]
    have := run_le (q := q) r (p + 1)
    split <;> omega
theorem run_all {q : Nat → Bool} : ∀ r p x, p ≤ x → x < run q r p → q x = true
  | 0, p, x, h1, h2 => absurd h2 (by show ¬ x < p; omega)
  | r + 1, p, x, h1, h2 => by
    rw [run_s] at h2
    by_cases e : q p = true
    · rw [if_pos e] at h2
      by_cases ex : x = p
      · rw [ex]; exact e
      · exact run_all r (p + 1) x (by omega) h2
    · rw [if_neg e] at h2; omega
/-- the class's tape, the reference's tape -/
def TC (n : Nat) (b : Nat → Nat) (σ : z_M) : Prop := n ≤ 400 ∧ σ 96 1 = nI n ∧ ∀ k, k < n → b k < 256 ∧ σ 97 k = cb (b k)
def TM (n : Nat) (b : Nat → Nat) (τ : z_M) : Prop := n ≤ 400 ∧ τ 0 14 = nI n ∧ ∀ k, k < n → b k < 256 ∧ τ 7 k = nI (b k)
theorem v_L1 : ∀ b, b < 256 → (if cb b < 97 then (if cb b < 65 then (0 : Int32) else if 90 < cb b then 0 else 1) else if 122 < cb b then (if cb b < 65 then (0 : Int32) else if 90 < cb b then 0 else 1) else 1) = if isL b = true then 1 else 0 := by decide +kernel
theorem v_D1 : ∀ b, b < 256 → (if cb b < 48 then (0 : Int32) else if 57 < cb b then 0 else 1) = if isD b = true then 1 else 0 := by decide +kernel
theorem v_L2 : ∀ b, b < 256 → (if (if nI b < 97 then (0 : Int32) else if 122 < nI b then 0 else 1) = 0 then (if (if nI b < 65 then (0 : Int32) else if 90 < nI b then 0 else 1) = 0 then (0 : Int32) else 1) else 1) = if isL b = true then 1 else 0 := by decide +kernel
theorem v_D2 : ∀ b, b < 256 → (if nI b < 48 then (0 : Int32) else if 57 < nI b then 0 else 1) = if isD b = true then 1 else 0 := by decide +kernel
theorem e8_isLetter {b : Nat} (hb : b < 256) (σ : z_M) : f8_isLetter (cb b) σ = some (if isL b = true then 1 else 0, σ) := by
  rw [← v_L1 b hb]
  unfold f8_isLetter f8_isLetter_J12 f8_isLetter_J28
  repeat' split
  all_goals first | rfl | contradiction
theorem e8_isDigit {b : Nat} (hb : b < 256) (σ : z_M) : f8_isDigit (cb b) σ = some (if isD b = true then 1 else 0, σ) := by
  rw [← v_D1 b hb]
  unfold f8_isDigit f8_isDigit_J16
  repeat' split
  all_goals first | rfl | contradiction
theorem e12_isLetter {b : Nat} (hb : b < 256) (τ : z_M) : f12_isLetter (nI b) τ = some (if isL b = true then 1 else 0, τ) := by
  rw [← v_L2 b hb]
  unfold f12_isLetter
  rw [e12_isIn, q_bnd, e12_isIn, q_bnd]
  repeat' split
  all_goals first | rfl | contradiction
theorem e12_isDigit {b : Nat} (hb : b < 256) (τ : z_M) : f12_isDigit (nI b) τ = some (if isD b = true then 1 else 0, τ) := by
  unfold f12_isDigit
  rw [e12_isIn, q_bnd, v_D2 b hb]
  split
  · rw [q_chk _ (by decide)]
  · rw [q_chk _ (by decide)]
theorem e12_isLetter_end (τ : z_M) : f12_isLetter (-1) τ = some (0, τ) := rfl
theorem e12_isDigit_end (τ : z_M) : f12_isDigit (-1) τ = some (0, τ) := rfl
theorem e12_raw {n p : Nat} {b : Nat → Nat} {τ : z_M} (h : TM n b τ) (hp : p < n) : f12_raw (nI p) τ = some (nI (b p), τ) := by
  obtain ⟨h1, h2, h3⟩ := h
  unfold f12_raw
  rw [h2, if_pos (nI_lt (by omega) (by omega)), k_cin _ (by omega) (by omega), q_ix (by omega), (h3 p hp).2]
theorem e12_raw_end {n : Nat} {b : Nat → Nat} {τ : z_M} (h : TM n b τ) : f12_raw (nI n) τ = some (-1, τ) := by
  obtain ⟨h1, h2, h3⟩ := h
  unfold f12_raw
  rw [h2, if_neg (nI_nlt (by omega) (by omega))]
theorem e8_letters {n : Nat} {b : Nat → Nat} {σ : z_M} (h : TC n b σ) : ∀ r p m, p + r = n → r < m → f8_lettersEnd_L2 m (nI p) σ = some (nI (run (fun k => isL (b k)) r p), σ)
  | 0, p, m, h1, h2 => by
    obtain ⟨m, rfl⟩ : ∃ k, m = k + 1 := ⟨m - 1, by omega⟩
    have hn := h.1
    unfold f8_lettersEnd_L2
    rw [h.2.1, if_neg (nI_nlt (by omega) (by omega))]; rfl
  | r + 1, p, m, h1, h2 => by
    obtain ⟨m, rfl⟩ : ∃ k, m = k + 1 := ⟨m - 1, by omega⟩
    have hn := h.1
    obtain ⟨b1, b2⟩ := h.2.2 p (by omega)
    conv => lhs; unfold f8_lettersEnd_L2
    rw [h.2.1, if_pos (nI_lt (by omega) (by omega)), k_cin _ (by omega) (by omega), q_ix (by omega), b2, e8_isLetter b1, q_bnd, nI_1, run_s]
    cases e : isL (b p)
    · rw [if_pos (by decide), if_neg (by decide)]
    · rw [if_pos rfl, i_10, if_pos rfl]
      exact e8_letters h r (p + 1) m (by omega) (by omega)
theorem e8_digits {n : Nat} {b : Nat → Nat} {σ : z_M} (h : TC n b σ) : ∀ r p m, p + r = n → r < m → f8_digitsEnd_L2 m (nI p) σ = some (nI (run (fun k => isD (b k)) r p), σ)
  | 0, p, m, h1, h2 => by
    obtain ⟨m, rfl⟩ : ∃ k, m = k + 1 := ⟨m - 1, by omega⟩
    have hn := h.1
    unfold f8_digitsEnd_L2
    rw [h.2.1, if_neg (nI_nlt (by omega) (by omega))]; rfl
  | r + 1, p, m, h1, h2 => by
    obtain ⟨m, rfl⟩ : ∃ k, m = k + 1 := ⟨m - 1, by omega⟩
    have hn := h.1
    obtain ⟨b1, b2⟩ := h.2.2 p (by omega)
    conv => lhs; unfold f8_digitsEnd_L2
    rw [h.2.1, if_pos (nI_lt (by omega) (by omega)), k_cin _ (by omega) (by omega), q_ix (by omega), b2, e8_isDigit b1, q_bnd, nI_1, run_s]
    cases e : isD (b p)
    · rw [if_pos (by decide), if_neg (by decide)]
    · rw [if_pos rfl, i_10, if_pos rfl]
      exact e8_digits h r (p + 1) m (by omega) (by omega)
/-- the number that the digits write -/
def dg (b : Nat → Nat) : Nat → Nat → Nat → Nat
  | 0, _, a => a
  | r + 1, p, a => dg b r (p + 1) (10 * a + b p - 48)
theorem v_cb : ∀ b, b < 256 → isD b = true → cb b = nI b ∧ 48 ≤ b ∧ b ≤ 57 := by decide +kernel
theorem e8_some {n : Nat} {b : Nat → Nat} {σ : z_M} (h : TC n b σ) : ∀ r p m (v : Int32), p + r ≤ n → r < m → ∃ v', f8_numberOf_L5 m (nI (p + r)) v (nI p) σ = some (v', σ)
  | 0, p, m, v, h1, h2 => by
    obtain ⟨m, rfl⟩ : ∃ k, m = k + 1 := ⟨m - 1, by omega⟩
    have hn := h.1
    refine ⟨v, ?_⟩
    unfold f8_numberOf_L5
    rw [if_neg (nI_nlt (by omega) (by omega))]
  | r + 1, p, m, v, h1, h2 => by
    obtain ⟨m, rfl⟩ : ∃ k, m = k + 1 := ⟨m - 1, by omega⟩
    have hn := h.1
    obtain ⟨v', y⟩ := e8_some h r (p + 1) m (v * 10 + σ 97 p - 48) (by omega) (by omega)
    refine ⟨v', ?_⟩
    conv => lhs; unfold f8_numberOf_L5
    rw [if_pos (nI_lt (by omega) (by omega)), k_cin _ (by omega) (by omega), q_ix (by omega), q_let, nI_1, show p + (r + 1) = p + 1 + r by omega]
    exact y
theorem e8_number {n : Nat} {b : Nat → Nat} {σ : z_M} (h : TC n b σ) : ∀ r p m a, p + r ≤ n → r < m → r ≤ 4 → a < 10 ^ (4 - r) → (∀ x, p ≤ x → x < p + r → isD (b x) = true) → f8_numberOf_L5 m (nI (p + r)) (nI a) (nI p) σ = some (nI (dg b r p a), σ) ∧ dg b r p a < 10000
  | 0, p, m, a, h1, h2, h3, h4, h5 => by
    obtain ⟨m, rfl⟩ : ∃ k, m = k + 1 := ⟨m - 1, by omega⟩
    have hn := h.1
    refine ⟨?_, h4⟩
    unfold f8_numberOf_L5
    rw [if_neg (nI_nlt (by omega) (by omega))]; rfl
  | r + 1, p, m, a, h1, h2, h3, h4, h5 => by
    obtain ⟨m, rfl⟩ : ∃ k, m = k + 1 := ⟨m - 1, by omega⟩
    have hn := h.1
    obtain ⟨b1, b2⟩ := h.2.2 p (by omega)
    obtain ⟨c1, c2, c3⟩ := v_cb (b p) b1 (h5 p (by omega) (by omega))
    have hpow : 10 ^ (4 - r) = 10 * 10 ^ (4 - (r + 1)) := by
      rw [show 4 - r = 4 - (r + 1) + 1 by omega, Nat.pow_succ, Nat.mul_comm]
    obtain ⟨y1, y2⟩ := e8_number h r (p + 1) m (10 * a + b p - 48) (by omega) (by omega) (by omega) (by omega) (fun x q1 q2 => h5 x (by omega) (by omega))
    refine ⟨?_, y2⟩
    have ev : nI a * 10 + σ 97 p - 48 = nI (10 * a + b p - 48) := by
      rw [b2, c1]
      show nI a * nI 10 + nI (b p) - nI 48 = _
      rw [pk_mul, nI_add, pk_sub (by omega), Nat.mul_comm]
    conv => lhs; unfold f8_numberOf_L5
    rw [if_pos (nI_lt (by omega) (by omega)), k_cin _ (by omega) (by omega), q_ix (by omega), q_let, nI_1, ev, show p + (r + 1) = p + 1 + r by omega]
    exact y1
