/-! the words, on both sides -/
def c1 (k : Nat) : Nat := ([104, 101, 105, 103, 104, 116, 32, 116, 101, 110, 100, 101, 114, 32, 119, 97, 116, 101, 114, 32, 100, 101, 103, 114, 101, 101, 32, 116, 104, 105, 110, 103, 32, 119, 101, 101, 107, 32, 115, 117, 114, 101, 115, 32, 108, 105, 110, 101, 115, 32, 103, 114, 111, 119, 32, 108, 111, 119, 101, 114, 32, 115, 101, 101, 100, 32, 119, 104, 101, 110, 32, 111, 114, 32, 97, 110, 100, 32, 110, 111, 116, 32, 102, 114, 111, 109, 32, 103, 105, 118, 101, 115, 32, 99, 108, 97, 115, 104, 101, 115, 32, 119, 111, 114, 107, 32, 115, 117, 114, 101, 32, 100, 111, 117, 98, 116, 115, 32, 111, 110, 32, 112, 111, 116, 32, 111, 102, 32, 98, 121, 32, 119, 101, 101, 100, 32, 116, 101, 108, 108, 32, 116, 111, 32] : List Nat).getD k 0
def c2 (k : Nat) : Nat := ([32, 103, 114, 111, 119, 32, 108, 111, 119, 101, 114, 32, 115, 101, 101, 100, 32, 119, 104, 101, 110, 32, 111, 114, 32, 97, 110, 100, 32, 110, 111, 116, 32, 104, 101, 105, 103, 104, 116, 32, 116, 101, 110, 100, 101, 114, 32, 119, 97, 116, 101, 114, 32, 100, 101, 103, 114, 101, 101, 32, 116, 104, 105, 110, 103, 32, 119, 101, 101, 107, 32, 115, 117, 114, 101, 115, 32, 108, 105, 110, 101, 115, 32, 102, 114, 111, 109, 32, 103, 105, 118, 101, 115, 32, 99, 108, 97, 115, 104, 101, 115, 32, 119, 111, 114, 107, 32, 115, 117, 114, 101, 32, 100, 111, 117, 98, 116, 115, 32, 111, 110, 32, 112, 111, 116, 32, 111, 102, 32, 98, 121, 32, 119, 101, 101, 100, 32, 116, 101, 108, 108, 32, 116, 111, 32] : List Nat).getD k 0
def wA (j : Nat) : Nat := ([0, 7, 14, 20, 27, 33, 38, 44, 50, 55, 61, 66, 71, 74, 78, 82, 87, 93, 101, 106, 111, 118, 121, 125, 128, 131, 136, 141, 144] : List Nat).getD j 0
def wN (j : Nat) : Nat := ([6, 6, 5, 6, 5, 4, 5, 5, 4, 5, 4, 4, 2, 3, 3, 4, 5, 7, 4, 4, 6, 2, 3, 2, 2, 4, 4, 2] : List Nat).getD j 0
def wB (j : Nat) : Nat := ([0, 5, 11, 16, 21, 24, 28, 32, 39, 46, 52, 59, 65, 70, 76, 82, 87, 93, 101, 106, 111, 118, 121, 125, 128, 131, 136, 141, 144] : List Nat).getD j 0
def wM (j : Nat) : Nat := ([4, 5, 4, 4, 2, 3, 3, 6, 6, 5, 6, 5, 4, 5, 5, 4, 5, 7, 4, 4, 6, 2, 3, 2, 2, 4, 4, 2] : List Nat).getD j 0
def wp (j : Nat) : Nat := ([7, 8, 9, 10, 11, 12, 13, 14, 0, 1, 2, 3, 4, 5, 6, 15, 16, 17, 18, 19, 20, 21, 22, 23, 24, 25, 26, 27] : List Nat).getD j 0
def wq (j : Nat) : Nat := ([8, 9, 10, 11, 12, 13, 14, 0, 1, 2, 3, 4, 5, 6, 7, 15, 16, 17, 18, 19, 20, 21, 22, 23, 24, 25, 26, 27] : List Nat).getD j 0
theorem v_c1 : ∀ k, k < 144 → (((z_by 0 k &&& 255).toUInt32 % 65536).toInt32 = nI (c1 k) ∧ z_ch (nI (c1 k)) = true) ∧ c1 k < 256 := by decide +kernel
theorem v_c2 : ∀ k, k < 145 → m_words k = nI (c2 k) ∧ c2 k < 256 := by decide +kernel
theorem v_wA : ∀ j, j < 28 → wA j + wN j < 144 ∧ c1 (wA j + wN j) = 32 ∧ (∀ i, i < wN j → c1 (wA j + i) ≠ 32) ∧ wA (j + 1) = wA j + wN j + 1 := by decide +kernel
theorem v_wB : ∀ j, j < 28 → wB j + 1 + wM j < 145 ∧ c2 (wB j + 1 + wM j) = 32 ∧ (∀ i, i < wM j → c2 (wB j + 1 + i) ≠ 32) ∧ wB (j + 1) = wB j + 1 + wM j ∧ wB j < 144 := by decide +kernel
theorem v_wp : ∀ j, j < 28 → wp j < 28 ∧ wN j = wM (wp j) ∧ ∀ i, i < wN j → c1 (wA j + i) = c2 (wB (wp j) + 1 + i) := by decide +kernel
theorem v_wq : ∀ j, j < 28 → wq j < 28 ∧ wp (wq j) = j := by decide +kernel
theorem v_wd : ∀ j, j < 28 → ∀ k, k < 28 → j ≠ k → wM j = wM k → ∃ i, i < wM j ∧ c2 (wB j + 1 + i) ≠ c2 (wB k + 1 + i) := by decide +kernel
/-- the first i signs of the text are those of the word that begins at a -/
def gd (b c : Nat → Nat) (p e a : Nat) : Nat → Bool
  | 0 => true
  | i + 1 => gd b c p e a i && (decide (p + i < e) && decide (b (p + i) = c (a + i)))
theorem gd_s {b c : Nat → Nat} {p e a i : Nat} : gd b c p e a (i + 1) = (gd b c p e a i && (decide (p + i < e) && decide (b (p + i) = c (a + i)))) := rfl
theorem gd_at {b c : Nat → Nat} {p e a : Nat} : ∀ {i : Nat}, gd b c p e a i = true → ∀ x, x < i → p + x < e ∧ b (p + x) = c (a + x)
  | 0, _, x, hx => absurd hx (by omega)
  | i + 1, h, x, hx => by
    rw [gd_s] at h
    simp only [Bool.and_eq_true, decide_eq_true_eq] at h
    by_cases ex : x = i
    · rw [ex]; exact h.2
    · exact gd_at h.1 x (by omega)
theorem gd_cong {b c c' : Nat → Nat} {p e a a' : Nat} : ∀ {i : Nat}, (∀ x, x < i → c (a + x) = c' (a' + x)) → gd b c p e a i = gd b c' p e a' i
  | 0, _ => rfl
  | i + 1, h => by rw [gd_s, gd_s, gd_cong (fun x hx => h x (by omega)), h i (by omega)]
def M1 (b : Nat → Nat) (p e j : Nat) : Prop := gd b c1 p e (wA j) (wN j) = true ∧ p + wN j = e
def M2 (b : Nat → Nat) (p e j : Nat) : Prop := gd b c2 p e (wB j + 1) (wM j) = true ∧ p + wM j = e
theorem M_12 {b : Nat → Nat} {p e j : Nat} (hj : j < 28) : M1 b p e j ↔ M2 b p e (wp j) := by
  obtain ⟨h1, h2, h3⟩ := v_wp j hj
  unfold M1 M2
  rw [gd_cong (c' := c2) (a' := wB (wp j) + 1) h3, h2]
theorem M2_one {b : Nat → Nat} {p e j k : Nat} (hj : j < 28) (hk : k < 28) (h1 : M2 b p e j) (h2 : M2 b p e k) : j = k := by
  by_cases q : j = k
  · exact q
  · exfalso
    have hm : wM j = wM k := by have := h1.2; have := h2.2; omega
    obtain ⟨i, i1, i2⟩ := v_wd j hj k hk q hm
    apply i2
    rw [← (gd_at h1.1 i i1).2, ← (gd_at h2.1 i (by omega)).2]
theorem e_charAt {k : Nat} (hk : k < 144) (σ : z_M) : fj0_charAt 0 (nI k) σ = some (nI (c1 k), σ) := by
  obtain ⟨⟨h1, h2⟩, -⟩ := v_c1 k hk
  unfold fj0_charAt fj0_isLatin1 fj1_charAt fj0_checkIndex fj3_checkIndex
  rw [q_bnd, i_10]
  have e : nI (z_sn 0) = nI 144 := rfl
  rw [e, if_neg (nI_pos (by omega)), if_pos (nI_lt (by omega) (by omega)), q_bnd, q_bnd, show z_sn 0 = 144 from rfl, k_cin _ hk (by omega), q_ix (by omega), h1, q_chk _ h2, q_bnd, q_chk _ h2]
theorem v_144 : z_shr (nI (z_sn 0)) 0 = nI 144 := by decide +kernel
theorem e_length (σ : z_M) : fj0_length 0 σ = some (nI 144, σ) := by
  unfold fj0_length fj0_coder
  rw [q_bnd, v_144]
theorem v_cL : ∀ b, b < 256 → isL b = true → cb b = nI b ∧ b ≠ 32 := by decide +kernel
/-- through one word -/
theorem w_in {n p e j : Nat} {b : Nat → Nat} {σ : z_M} (h : TC n b σ) (hpe : p < e) (hen : e ≤ n) (hl : ∀ x, p ≤ x → x < e → isL (b x) = true) (hj : j < 28) : ∀ r i m, i + r = wN j → r < m → f8_wordOf_L8 m (nI p) (nI e) (nI j) (if gd b c1 p e (wA j) i = true then nI i else -1) (nI (wA j + i)) σ = if gd b c1 p e (wA j) (wN j) = true ∧ p + wN j = e then some (nI j, σ) else f8_wordOf_L8 (m - (r + 1)) (nI p) (nI e) (nI (j + 1)) 0 (nI (wA (j + 1))) σ
  | 0, i, m, h1, h2 => by
    obtain ⟨m, rfl⟩ : ∃ k, m = k + 1 := ⟨m - 1, by omega⟩
    obtain ⟨a1, a2, a3, a4⟩ := v_wA j hj
    obtain rfl : i = wN j := by omega
    have hn := h.1
    conv => lhs; unfold f8_wordOf_L8
    rw [e_length, q_bnd, if_pos (nI_lt (by omega) (by omega)), e_charAt a1, q_bnd, a2, if_pos (show nI 32 = 32 from rfl), pk_sub (by omega), nI_1, nI_1, a4, show m + 1 - (0 + 1) = m by omega]
    by_cases q : gd b c1 p e (wA j) (wN j) = true
    · rw [if_pos q]
      by_cases q2 : p + wN j = e
      · rw [if_pos (show nI (wN j) = nI (e - p) by rw [nI_eq (by omega) (by omega)]; omega), if_pos ⟨q, q2⟩]
      · rw [if_neg (show ¬ nI (wN j) = nI (e - p) by rw [nI_eq (by omega) (by omega)]; omega), if_neg (fun z => q2 z.2)]
    · rw [if_neg q, if_neg (show ¬ (-1 : Int32) = nI (e - p) from fun z => q_neg (by omega) z.symm), if_neg (fun z => q z.1)]
  | r + 1, i, m, h1, h2 => by
    obtain ⟨m, rfl⟩ : ∃ k, m = k + 1 := ⟨m - 1, by omega⟩
    obtain ⟨a1, a2, a3, a4⟩ := v_wA j hj
    have hn := h.1
    have hi : i < wN j := by omega
    have hc := v_c1 (wA j + i) (by omega)
    have hne : ¬ nI (c1 (wA j + i)) = 32 := by
      show ¬ nI (c1 (wA j + i)) = nI 32
      rw [nI_eq (by omega) (by omega)]; exact a3 i hi
    have ih := w_in h hpe hen hl hj r (i + 1) m (by omega) (by omega)
    rw [show m + 1 - (r + 1 + 1) = m - (r + 1) by omega, ← ih]
    conv => lhs; unfold f8_wordOf_L8
    unfold f8_wordOf_J86
    rw [e_length, q_bnd, if_pos (nI_lt (by omega) (by omega)), e_charAt (by omega), q_bnd, if_neg hne, nI_1, Nat.add_assoc]
    by_cases q : gd b c1 p e (wA j) i = true
    · rw [if_pos q, if_neg (nI_pos (by omega)), nI_add, nI_1, gd_s, q]
      by_cases q2 : p + i < e
      · obtain ⟨b1, b2⟩ := h.2.2 (p + i) (by omega)
        have hL := hl (p + i) (by omega) q2
        rw [if_pos (nI_lt (by omega) (by omega)), k_cin _ (by omega) (by omega), q_ix (by omega), b2, (v_cL (b (p + i)) b1 hL).1]
        by_cases q3 : b (p + i) = c1 (wA j + i)
        · rw [if_pos (by rw [q3]), if_pos (by simp [q2, q3])]
        · rw [if_neg (by rw [nI_eq (by omega) (by omega)]; exact q3), if_neg (by simp [q3])]
      · rw [if_neg (nI_nlt (by omega) (by omega)), if_neg (by simp [q2])]
    · rw [if_neg q, if_pos (by decide), if_neg (by rw [gd_s]; simp [q])]
