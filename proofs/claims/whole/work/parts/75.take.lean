/-! the reference: can this house take this set? -/
theorem cN_join {p a b : Nat → Bool} {m : Nat} (h1 : ∀ i, i < m → p i = a i) (h2 : ∀ i, i < m → b i = false) (h3 : ∀ i, m ≤ i → b i = p i) : ∀ n, cN p (m + n) = cN a m + cN b (m + n)
  | 0 => by
    have e1 : cN p m = cN a m := cN_cong h1
    have e2 : cN b m = 0 := cN_zero.mpr h2
    show cN p m = cN a m + cN b m
    omega
  | n + 1 => by
    have ih := cN_join h1 h2 h3 n
    show cN p (m + n + 1) = cN a m + cN b (m + n + 1)
    rw [cN_s, cN_s, ih, h3 (m + n) (by omega)]
    omega
theorem sub_1 (a : Int32) (b : Nat) : a - nI b - 1 = a - nI (b + 1) := by
  rw [← nI_1]
  generalize nI b = y
  apply Int32.toBitVec_inj.mp
  simp only [Int32.toBitVec_sub, Int32.toBitVec_add]
  bv_omega
/-- what the walk over the houses leaves as it is -/
def TF (τ0 τ : z_M) : Prop := ∀ c, c ≠ 24 → c ≠ 25 → c ≠ 26 → c ≠ 27 → c ≠ 28 → τ c = τ0 c
theorem e12_tL2 {h s : Nat} : ∀ (r k n : Nat) (τ : z_M), k + r = 8 → r < n → (∀ x, x < k → τ 25 x = τ 4 x) → ∃ τ', f12_canTake_L2 n (nI h) (nI s) (nI k) τ = f12_canTake_J26 (nI h) (nI s) τ' ∧ (∀ c, c ≠ 25 → τ' c = τ c) ∧ ∀ x, x < 8 → τ' 25 x = τ 4 x
  | 0, k, n, τ, h1, h2, hk => by
    obtain ⟨n, rfl⟩ : ∃ m, n = m + 1 := ⟨n - 1, by omega⟩
    refine ⟨τ, ?_, fun _ _ => rfl, fun x hx => hk x (by omega)⟩
    unfold f12_canTake_L2
    rw [if_neg (show ¬ nI k < 8 from nI_nlt (a := k) (b := 8) (by omega) (by omega))]
  | r + 1, k, n, τ, h1, h2, hk => by
    obtain ⟨n, rfl⟩ : ∃ m, n = m + 1 := ⟨n - 1, by omega⟩
    obtain ⟨τ', y1, y2, y3⟩ := e12_tL2 (h := h) (s := s) r (k + 1) n (z_set τ 25 k (τ 4 k)) (by omega) (by omega) (fun x hx => by
      rw [show z_set τ 25 k (τ 4 k) 4 = τ 4 from s_ne (by omega)]
      by_cases e : x = k
      · rw [e, s_eq]
      · rw [s_kn e]; exact hk x (by omega))
    refine ⟨τ', ?_, fun c hc => by rw [y2 c hc, s_ne hc], fun x hx => by rw [y3 x hx, s_ne (by omega)]⟩
    conv => lhs; unfold f12_canTake_L2
    rw [if_pos (show nI k < 8 from nI_lt (a := k) (b := 8) (by omega) (by omega)), k_cin _ (by omega) (by omega), k_cin _ (by omega) (by omega), q_ix (by omega), q_let, nI_1]
    exact y1
theorem e12_tL43 {h o : Nat} {G : Nat → Nat} (ho : o < 8) (hG : G o < 256) (K : Int32 → Int32 → z_M → Option (Int32 × z_M)) : ∀ (r k n : Nat) (τ : z_M) (b : Nat → Int32) (c : Nat → Nat), k + r = 8 → r < n → τ 28 o = nI (G o) → (∀ x, x < 8 → τ 25 x = b x - nI (c x + if x < k ∧ (G o).testBit x = true then 1 else 0)) → ∃ τ', f12_canTake_L43 K n (nI h) (nI o) (nI k) τ = K (nI h) (nI (o + 1)) τ' ∧ (∀ c, c ≠ 25 → τ' c = τ c) ∧ ∀ x, x < 8 → τ' 25 x = b x - nI (c x + if (G o).testBit x = true then 1 else 0)
  | 0, k, n, τ, b, c, h1, h2, h28, hk => by
    obtain ⟨n, rfl⟩ : ∃ m, n = m + 1 := ⟨n - 1, by omega⟩
    refine ⟨τ, ?_, fun _ _ => rfl, fun x hx => ?_⟩
    · unfold f12_canTake_L43 f12_canTake_J87
      rw [if_neg (show ¬ nI k < 8 from nI_nlt (a := k) (b := 8) (by omega) (by omega)), nI_1]
    · rw [hk x hx]
      by_cases e : (G o).testBit x = true
      · rw [if_pos ⟨by omega, e⟩, if_pos e]
      · rw [if_neg (fun q => e q.2), if_neg e]
  | r + 1, k, n, τ, b, c, h1, h2, h28, hk => by
    obtain ⟨n, rfl⟩ : ∃ m, n = m + 1 := ⟨n - 1, by omega⟩
    have hb : f12_canTake_L43 K (n + 1) (nI h) (nI o) (nI k) τ = f12_canTake_L43 K n (nI h) (nI o) (nI (k + 1)) (if (G o).testBit k = true then z_set τ 25 k (τ 25 k - 1) else τ) := by
      conv => lhs; unfold f12_canTake_L43
      rw [if_pos (show nI k < 8 from nI_lt (a := k) (b := 8) (by omega) (by omega)), k_cin _ ho (by omega), q_ix (show o < 2 ^ 31 by omega), h28, k_bit _ hG k (by omega), k_cin _ (by omega) (by omega), k_cin _ (by omega) (by omega), q_ix (by omega), q_let, nI_1]
      by_cases e : (G o).testBit k = true
      · rw [if_pos e, if_pos e, if_pos rfl]
      · rw [if_neg e, if_neg e, if_neg (by decide)]
    rw [hb]
    obtain ⟨τ', y1, y2, y3⟩ := e12_tL43 (h := h) ho hG K r (k + 1) n (if (G o).testBit k = true then z_set τ 25 k (τ 25 k - 1) else τ) b c (by omega) (by omega) (by
      split
      · rw [s_ne (by omega)]; exact h28
      · exact h28) (fun x hx => by
      by_cases e : (G o).testBit k = true
      · rw [if_pos e]
        by_cases ex : x = k
        · rw [ex, s_eq, hk k (by omega), if_neg (by omega), if_pos ⟨by omega, e⟩, Nat.add_zero, sub_1]
        · rw [s_kn ex, hk x hx]
          by_cases e2 : x < k ∧ (G o).testBit x = true
          · rw [if_pos e2, if_pos ⟨by omega, e2.2⟩]
          · rw [if_neg e2, if_neg (fun q => e2 ⟨by omega, q.2⟩)]
      · rw [if_neg e, hk x hx]
        by_cases e2 : x < k ∧ (G o).testBit x = true
        · rw [if_pos e2, if_pos ⟨by omega, e2.2⟩]
        · rw [if_neg e2, if_neg (fun q => by
            by_cases ex : x = k
            · rw [ex] at q; exact e q.2
            · exact e2 ⟨by omega, q.2⟩)])
    refine ⟨τ', y1, fun c hc => ?_, y3⟩
    rw [y2 c hc]
    split
    · exact s_ne hc
    · rfl
theorem e12_tL35 {h : Nat} {G : Nat → Nat} {b : Nat → Int32} (hh : h < 8) (hG : ∀ o, o ≤ h → G o < 256) : ∀ (r o n : Nat) (τ : z_M), o + r = h + 1 → r < n → (∀ i, i ≤ h → τ 28 i = nI (G i)) → (∀ x, x < 8 → τ 25 x = b x - nI (cN (fun i => (G i).testBit x) o)) → ∃ τ', f12_canTake_L35 n (nI h) (nI o) τ = f12_canTake_J93 (nI h) τ' ∧ (∀ c, c ≠ 25 → τ' c = τ c) ∧ ∀ x, x < 8 → τ' 25 x = b x - nI (cN (fun i => (G i).testBit x) (h + 1))
  | 0, o, n, τ, h1, h2, h28, hk => by
    obtain ⟨n, rfl⟩ : ∃ m, n = m + 1 := ⟨n - 1, by omega⟩
    obtain rfl : o = h + 1 := by omega
    refine ⟨τ, ?_, fun _ _ => rfl, hk⟩
    unfold f12_canTake_L35
    rw [if_pos (nI_lt (by omega) (by omega))]
  | r + 1, o, n, τ, h1, h2, h28, hk => by
    obtain ⟨n, rfl⟩ : ∃ m, n = m + 1 := ⟨n - 1, by omega⟩
    obtain ⟨τ1, z1, z2, z3⟩ := e12_tL43 (h := h) (o := o) (G := G) (by omega) (hG o (by omega)) (f12_canTake_L35 n) 8 0 z_fu τ b (fun x => cN (fun i => (G i).testBit x) o) (by omega) (by decide) (h28 o (by omega)) (fun x hx => by
      rw [if_neg (by omega), Nat.add_zero]; exact hk x hx)
    obtain ⟨τ', y1, y2, y3⟩ := e12_tL35 hh hG r (o + 1) n τ1 (by omega) (by omega) (fun i hi => by rw [z2 28 (by omega)]; exact h28 i hi) (fun x hx => by rw [z3 x hx, cN_s])
    refine ⟨τ', ?_, fun c hc => (y2 c hc).trans (z2 c hc), y3⟩
    conv => lhs; unfold f12_canTake_L35
    rw [if_neg (nI_nlt (by omega) (by omega))]
    exact z1.trans y1
theorem e12_tL120 {H h : Nat} (hH : H ≤ 8) : ∀ (r k n : Nat) (τ : z_M), k + r = H → r < n → τ 0 6 = nI H → (∀ i, i < k → τ 24 i = 0) → ∃ τ', f12_canTake_L120 n (nI h) (nI k) τ = f12_canTake_J141 (nI h) τ' ∧ (∀ c, c ≠ 24 → τ' c = τ c) ∧ ∀ i, i < H → τ' 24 i = 0
  | 0, k, n, τ, h1, h2, eh, hk => by
    obtain ⟨n, rfl⟩ : ∃ m, n = m + 1 := ⟨n - 1, by omega⟩
    refine ⟨τ, ?_, fun _ _ => rfl, fun i hi => hk i (by omega)⟩
    unfold f12_canTake_L120
    rw [eh, if_neg (nI_nlt (by omega) (by omega))]
  | r + 1, k, n, τ, h1, h2, eh, hk => by
    obtain ⟨n, rfl⟩ : ∃ m, n = m + 1 := ⟨n - 1, by omega⟩
    obtain ⟨τ', y1, y2, y3⟩ := e12_tL120 (h := h) hH r (k + 1) n (z_set τ 24 k 0) (by omega) (by omega) (by rw [s_ne (by omega)]; exact eh) (fun i hi => by
      by_cases e : i = k
      · rw [e, s_eq]
      · rw [s_kn e]; exact hk i (by omega))
    refine ⟨τ', ?_, fun c hc => by rw [y2 c hc, s_ne hc], y3⟩
    conv => lhs; unfold f12_canTake_L120
    rw [eh, if_pos (nI_lt (by omega) (by omega)), k_cin _ (by omega) (by omega), q_ix (by omega), q_let, nI_1]
    exact y1
theorem e12_tL95 {h : Nat} {τ : z_M} : ∀ (r k n : Nat), k + r = 8 → r < n → (f12_canTake_L95 n (nI h) (nI k) τ = some (0, τ) ∧ ∃ x, x < 8 ∧ τ 25 x < 0) ∨ (f12_canTake_L95 n (nI h) (nI k) τ = f12_canTake_J118 (nI h) τ ∧ ∀ x, k ≤ x → x < 8 → ¬ τ 25 x < 0)
  | 0, k, n, h1, h2 => by
    obtain ⟨n, rfl⟩ : ∃ m, n = m + 1 := ⟨n - 1, by omega⟩
    right
    refine ⟨?_, fun x a b => absurd a (by omega)⟩
    unfold f12_canTake_L95
    rw [if_neg (show ¬ nI k < 8 from nI_nlt (a := k) (b := 8) (by omega) (by omega))]
  | r + 1, k, n, h1, h2 => by
    obtain ⟨n, rfl⟩ : ∃ m, n = m + 1 := ⟨n - 1, by omega⟩
    have hb : f12_canTake_L95 (n + 1) (nI h) (nI k) τ = if τ 25 k < 0 then some (0, τ) else f12_canTake_L95 n (nI h) (nI (k + 1)) τ := by
      conv => lhs; unfold f12_canTake_L95
      rw [if_pos (show nI k < 8 from nI_lt (a := k) (b := 8) (by omega) (by omega)), k_cin _ (by omega) (by omega), q_ix (by omega), nI_1]
    rw [hb]
    by_cases e : τ 25 k < 0
    · rw [if_pos e]; exact .inl ⟨rfl, k, by omega, e⟩
    · rw [if_neg e]
      rcases e12_tL95 (h := h) (τ := τ) r (k + 1) n (by omega) (by omega) with ⟨a, b⟩ | ⟨a, b⟩
      · exact .inl ⟨a, b⟩
      · refine .inr ⟨a, fun x x1 x2 => ?_⟩
        by_cases ex : x = k
        · rw [ex]; exact e
        · exact b x (by omega) x2
