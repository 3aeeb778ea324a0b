/-! THE IMAGE: what its numbers become; image -/
theorem stp_57 {tk : Bool} {p : Nat} {τ : z_M} (hp : p < 1789) : stp tk p τ 0 57 = τ 0 57 := by
  obtain ⟨-, h1, -, h2⟩ := loc_ok p hp
  have hs : ∀ (X : z_M) (v : Int32), z_set X (loc p).1 (loc p).2 v 0 57 = X 0 57 := fun X v => by
    by_cases e : (loc p).1 = 0
    · rw [e, s_kn (fun q => (h2 e).1 q.symm)]
    · rw [s_ne (fun q => e q.symm)]
  unfold stp
  split
  · rw [hs, s_ne (by omega), s_kn (by omega)]
  · rw [hs, s_kn (by omega)]
theorem stp_59 {tk : Bool} {p : Nat} {τ : z_M} (hp : p < 1789) : stp tk p τ 0 59 = nI (p + 1) := by
  obtain ⟨-, h1, -, h2⟩ := loc_ok p hp
  have hs : ∀ (X : z_M) (v : Int32), z_set X (loc p).1 (loc p).2 v 0 59 = X 0 59 := fun X v => by
    by_cases e : (loc p).1 = 0
    · rw [e, s_kn (fun q => (h2 e).2 q.symm)]
    · rw [s_ne (fun q => e q.symm)]
  unfold stp
  split
  · rw [hs, s_ne (by omega), s_eq]
  · rw [hs, s_eq]
theorem stps_57 {tk : Bool} {τ : z_M} : ∀ {p : Nat}, p ≤ 1789 → stps tk τ p 0 57 = τ 0 57
  | 0, _ => rfl
  | p + 1, hp => by
    show stp tk p (stps tk τ p) 0 57 = _
    rw [stp_57 (by omega)]; exact stps_57 (by omega)
theorem stps_59 {tk : Bool} {τ : z_M} (h : τ 0 59 = nI 0) : ∀ {p : Nat}, p ≤ 1789 → stps tk τ p 0 59 = nI p
  | 0, _ => h
  | p + 1, hp => stp_59 (by omega)
/-- one number -/
theorem keeps_at {tk : Bool} {τ : z_M} (h57 : τ 0 57 = if tk = true then 1 else 0) (h59 : τ 0 59 = nI 0) {p c k : Nat} (hp : p < 1789) (hl : loc p = (c, k)) : ∃ r X', f12_keeps (stps tk τ p c k) (stps tk τ p) = some (r, X') ∧ z_set X' c k r = stps tk τ (p + 1) := by
  have e57 := stps_57 (tk := tk) (τ := τ) (p := p) (by omega)
  have e59 := stps_59 (tk := tk) h59 (p := p) (by omega)
  have ep : nI (p + 1) - 1 = nI p := nI_pred p
  have l1 : (loc p).1 = c := by rw [hl]
  have l2 : (loc p).2 = k := by rw [hl]
  obtain ⟨-, h33, -, -⟩ := loc_ok p hp
  rw [l1] at h33
  cases tk with
  | true =>
    refine ⟨stps true τ p c k, z_set (z_set (stps true τ p) 0 59 (nI (p + 1))) 33 p (stps true τ p c k), ?_, ?_⟩
    · unfold f12_keeps
      rw [q_let, e59, nI_1, s_kn (show 57 ≠ 59 by omega), e57, h57, if_pos rfl, i_10, s_eq, ep, k_cin _ (by omega) (by omega), q_ix (by omega), q_let]
    · show _ = stp true p (stps true τ p)
      unfold stp
      rw [if_pos rfl, l1, l2]
  | false =>
    have h57' : τ 0 57 = 0 := by rw [h57]; rfl
    refine ⟨stps false τ p 33 p, z_set (stps false τ p) 0 59 (nI (p + 1)), ?_, ?_⟩
    · unfold f12_keeps
      rw [q_let, e59, nI_1, s_kn (show 57 ≠ 59 by omega), e57, h57', i_00, s_eq, ep, k_cin _ (by omega) (by omega), q_ix (by omega), s_ne (by omega)]
    · show _ = stp false p (stps false τ p)
      unfold stp
      rw [if_neg (by decide), l1, l2]
theorem lo_a : ∀ k, k < 100 → loc k = (1, k) := by decide +kernel
theorem lo_b : ∀ k, k < 8 → loc (108 + 2 * k) = (4, k) ∧ loc (108 + 2 * k + 1) = (5, k) := by decide +kernel
theorem lo_c : ∀ k, k < 12 → loc (124 + 3 * k) = (29, k) ∧ loc (124 + 3 * k + 1) = (30, k) ∧ loc (124 + 3 * k + 2) = (31, k) := by decide +kernel
theorem lo_d : ∀ k, k < 48 → loc (160 + k) = (17, k) := by decide +kernel
theorem lo_e : ∀ k, k < 36 → loc (208 + k) = (18, k) := by decide +kernel
theorem lo_f : ∀ k, k < 80 → loc (244 + k) = (19, k) := by decide +kernel
set_option maxRecDepth 100000 in
theorem lo_g : ∀ k, k < 600 → loc (324 + k) = (6, k) := by decide +kernel
theorem lo_h : ∀ k, k < 16 → loc (925 + 4 * k) = (10, 16 + k) ∧ loc (925 + 4 * k + 1) = (11, 16 + k) ∧ loc (925 + 4 * k + 2) = (12, 16 + k) ∧ loc (925 + 4 * k + 3) = (13, 16 + k) := by decide +kernel
set_option maxRecDepth 100000 in
theorem lo_i : ∀ k, k < 400 → loc (989 + 2 * k) = (14, 400 + k) ∧ loc (989 + 2 * k + 1) = (15, 400 + k) := by decide +kernel
theorem kL35 {tk : Bool} {τ : z_M} (h57 : τ 0 57 = if tk = true then 1 else 0) (h59 : τ 0 59 = nI 0) (v : Int32) : ∀ (r k n : Nat), k + r = 100 → r < n → f12_image_L35 n v (nI k) (stps tk τ k) = f12_image_J63 v (stps tk τ 100)
  | 0, k, n, h1, h2 => by
    obtain ⟨n, rfl⟩ : ∃ m, n = m + 1 := ⟨n - 1, by omega⟩
    obtain rfl : k = 100 := by omega
    unfold f12_image_L35
    rw [l_100, if_neg (nI_nlt (by omega) (by omega))]
  | r + 1, k, n, h1, h2 => by
    obtain ⟨n, rfl⟩ : ∃ m, n = m + 1 := ⟨n - 1, by omega⟩
    obtain ⟨x, X, e1, e2⟩ := keeps_at h57 h59 (p := k) (by omega) (lo_a k (by omega))
    unfold f12_image_L35
    rw [l_100, if_pos (nI_lt (by omega) (by omega)), k_cin _ (by omega) (by omega), q_ix (by omega), e1, q_bnd, k_cin _ (by omega) (by omega), q_let, e2, nI_1]
    exact kL35 h57 h59 v r (k + 1) n (by omega) (by omega)
theorem kL98 {tk : Bool} {τ : z_M} (h57 : τ 0 57 = if tk = true then 1 else 0) (h59 : τ 0 59 = nI 0) : ∀ (r k n : Nat), k + r = 8 → r < n → f12_keepsTold_L98 n (nI k) (stps tk τ (108 + 2 * k)) = f12_keepsTold_J142 (stps tk τ 124)
  | 0, k, n, h1, h2 => by
    obtain ⟨n, rfl⟩ : ∃ m, n = m + 1 := ⟨n - 1, by omega⟩
    obtain rfl : k = 8 := by omega
    unfold f12_keepsTold_L98
    rw [l_8, if_neg (nI_nlt (by omega) (by omega))]
  | r + 1, k, n, h1, h2 => by
    obtain ⟨n, rfl⟩ : ∃ m, n = m + 1 := ⟨n - 1, by omega⟩
    obtain ⟨x, X, e1, e2⟩ := keeps_at h57 h59 (p := 108 + 2 * k) (by omega) (lo_b k (by omega)).1
    obtain ⟨y, Y, e3, e4⟩ := keeps_at h57 h59 (p := 108 + 2 * k + 1) (by omega) (lo_b k (by omega)).2
    unfold f12_keepsTold_L98
    rw [l_8, if_pos (nI_lt (by omega) (by omega)), k_cin _ (by omega) (by omega), q_ix (by omega), e1, q_bnd, k_cin _ (by omega) (by omega), q_let, e2, k_cin _ (by omega) (by omega), e3, q_bnd, k_cin _ (by omega) (by omega), q_let, e4, nI_1]
    exact kL98 h57 h59 r (k + 1) n (by omega) (by omega)
theorem kL144 {tk : Bool} {τ : z_M} (h57 : τ 0 57 = if tk = true then 1 else 0) (h59 : τ 0 59 = nI 0) : ∀ (r k n : Nat), k + r = 12 → r < n → f12_keepsTold_L144 n (nI k) (stps tk τ (124 + 3 * k)) = f12_keepsTold_J204 (stps tk τ 160)
  | 0, k, n, h1, h2 => by
    obtain ⟨n, rfl⟩ : ∃ m, n = m + 1 := ⟨n - 1, by omega⟩
    obtain rfl : k = 12 := by omega
    unfold f12_keepsTold_L144
    rw [l_12, if_neg (nI_nlt (by omega) (by omega))]
  | r + 1, k, n, h1, h2 => by
    obtain ⟨n, rfl⟩ : ∃ m, n = m + 1 := ⟨n - 1, by omega⟩
    obtain ⟨x, X, e1, e2⟩ := keeps_at h57 h59 (p := 124 + 3 * k) (by omega) (lo_c k (by omega)).1
    obtain ⟨y, Y, e3, e4⟩ := keeps_at h57 h59 (p := 124 + 3 * k + 1) (by omega) (lo_c k (by omega)).2.1
    obtain ⟨z, Z, e5, e6⟩ := keeps_at h57 h59 (p := 124 + 3 * k + 2) (by omega) (lo_c k (by omega)).2.2
    unfold f12_keepsTold_L144
    rw [l_12, if_pos (nI_lt (by omega) (by omega)), k_cin _ (by omega) (by omega), q_ix (by omega), e1, q_bnd, k_cin _ (by omega) (by omega), q_let, e2, k_cin _ (by omega) (by omega), e3, q_bnd, k_cin _ (by omega) (by omega), q_let, e4, k_cin _ (by omega) (by omega), e5, q_bnd, k_cin _ (by omega) (by omega), q_let, e6, nI_1]
    exact kL144 h57 h59 r (k + 1) n (by omega) (by omega)
theorem kL206 {tk : Bool} {τ : z_M} (h57 : τ 0 57 = if tk = true then 1 else 0) (h59 : τ 0 59 = nI 0) : ∀ (r k n : Nat), k + r = 48 → r < n → f12_keepsTold_L206 n (nI k) (stps tk τ (160 + k)) = f12_keepsTold_J234 (stps tk τ 208)
  | 0, k, n, h1, h2 => by
    obtain ⟨n, rfl⟩ : ∃ m, n = m + 1 := ⟨n - 1, by omega⟩
    obtain rfl : k = 48 := by omega
    unfold f12_keepsTold_L206
    rw [l_48, if_neg (nI_nlt (by omega) (by omega))]
  | r + 1, k, n, h1, h2 => by
    obtain ⟨n, rfl⟩ : ∃ m, n = m + 1 := ⟨n - 1, by omega⟩
    obtain ⟨x, X, e1, e2⟩ := keeps_at h57 h59 (p := 160 + k) (by omega) (lo_d k (by omega))
    unfold f12_keepsTold_L206
    rw [l_48, if_pos (nI_lt (by omega) (by omega)), k_cin _ (by omega) (by omega), q_ix (by omega), e1, q_bnd, k_cin _ (by omega) (by omega), q_let, e2, nI_1]
    exact kL206 h57 h59 r (k + 1) n (by omega) (by omega)
theorem kL236 {tk : Bool} {τ : z_M} (h57 : τ 0 57 = if tk = true then 1 else 0) (h59 : τ 0 59 = nI 0) : ∀ (r k n : Nat), k + r = 36 → r < n → f12_keepsTold_L236 n (nI k) (stps tk τ (208 + k)) = f12_keepsTold_J264 (stps tk τ 244)
  | 0, k, n, h1, h2 => by
    obtain ⟨n, rfl⟩ : ∃ m, n = m + 1 := ⟨n - 1, by omega⟩
    obtain rfl : k = 36 := by omega
    unfold f12_keepsTold_L236
    rw [l_36, if_neg (nI_nlt (by omega) (by omega))]
  | r + 1, k, n, h1, h2 => by
    obtain ⟨n, rfl⟩ : ∃ m, n = m + 1 := ⟨n - 1, by omega⟩
    obtain ⟨x, X, e1, e2⟩ := keeps_at h57 h59 (p := 208 + k) (by omega) (lo_e k (by omega))
    unfold f12_keepsTold_L236
    rw [l_36, if_pos (nI_lt (by omega) (by omega)), k_cin _ (by omega) (by omega), q_ix (by omega), e1, q_bnd, k_cin _ (by omega) (by omega), q_let, e2, nI_1]
    exact kL236 h57 h59 r (k + 1) n (by omega) (by omega)
theorem kL266 {tk : Bool} {τ : z_M} (h57 : τ 0 57 = if tk = true then 1 else 0) (h59 : τ 0 59 = nI 0) : ∀ (r k n : Nat), k + r = 80 → r < n → f12_keepsTold_L266 n (nI k) (stps tk τ (244 + k)) = some ((), stps tk τ 324)
  | 0, k, n, h1, h2 => by
    obtain ⟨n, rfl⟩ : ∃ m, n = m + 1 := ⟨n - 1, by omega⟩
    obtain rfl : k = 80 := by omega
    unfold f12_keepsTold_L266
    rw [l_80, if_neg (nI_nlt (by omega) (by omega))]
  | r + 1, k, n, h1, h2 => by
    obtain ⟨n, rfl⟩ : ∃ m, n = m + 1 := ⟨n - 1, by omega⟩
    obtain ⟨x, X, e1, e2⟩ := keeps_at h57 h59 (p := 244 + k) (by omega) (lo_f k (by omega))
    unfold f12_keepsTold_L266
    rw [l_80, if_pos (nI_lt (by omega) (by omega)), k_cin _ (by omega) (by omega), q_ix (by omega), e1, q_bnd, k_cin _ (by omega) (by omega), q_let, e2, nI_1]
    exact kL266 h57 h59 r (k + 1) n (by omega) (by omega)
theorem kL69 {tk : Bool} {τ : z_M} (h57 : τ 0 57 = if tk = true then 1 else 0) (h59 : τ 0 59 = nI 0) (v : Int32) : ∀ (r k n : Nat), k + r = 600 → r < n → f12_image_L69 n v (nI k) (stps tk τ (324 + k)) = f12_image_J98 v (stps tk τ 924)
  | 0, k, n, h1, h2 => by
    obtain ⟨n, rfl⟩ : ∃ m, n = m + 1 := ⟨n - 1, by omega⟩
    obtain rfl : k = 600 := by omega
    unfold f12_image_L69
    rw [l_600, if_neg (nI_nlt (by omega) (by omega))]
  | r + 1, k, n, h1, h2 => by
    obtain ⟨n, rfl⟩ : ∃ m, n = m + 1 := ⟨n - 1, by omega⟩
    obtain ⟨x, X, e1, e2⟩ := keeps_at h57 h59 (p := 324 + k) (by omega) (lo_g k (by omega))
    unfold f12_image_L69
    rw [l_600, if_pos (nI_lt (by omega) (by omega)), k_cin _ (by omega) (by omega), q_ix (by omega), e1, q_bnd, k_cin _ (by omega) (by omega), q_let, e2, nI_1]
    exact kL69 h57 h59 v r (k + 1) n (by omega) (by omega)
theorem kL19 {tk : Bool} {τ : z_M} (h57 : τ 0 57 = if tk = true then 1 else 0) (h59 : τ 0 59 = nI 0) : ∀ (r k n : Nat), k + r = 16 → r < n → f12_keepsLaw_L19 n (nI (16 + k)) (stps tk τ (925 + 4 * k)) = f12_keepsLaw_J95 (stps tk τ 989)
  | 0, k, n, h1, h2 => by
    obtain ⟨n, rfl⟩ : ∃ m, n = m + 1 := ⟨n - 1, by omega⟩
    obtain rfl : k = 16 := by omega
    unfold f12_keepsLaw_L19
    rw [l_32, if_neg (nI_nlt (by omega) (by omega))]
  | r + 1, k, n, h1, h2 => by
    obtain ⟨n, rfl⟩ : ∃ m, n = m + 1 := ⟨n - 1, by omega⟩
    obtain ⟨x, X, e1, e2⟩ := keeps_at h57 h59 (p := 925 + 4 * k) (by omega) (lo_h k (by omega)).1
    obtain ⟨y, Y, e3, e4⟩ := keeps_at h57 h59 (p := 925 + 4 * k + 1) (by omega) (lo_h k (by omega)).2.1
    obtain ⟨z, Z, e5, e6⟩ := keeps_at h57 h59 (p := 925 + 4 * k + 2) (by omega) (lo_h k (by omega)).2.2.1
    obtain ⟨w, V, e7, e8⟩ := keeps_at h57 h59 (p := 925 + 4 * k + 3) (by omega) (lo_h k (by omega)).2.2.2
    unfold f12_keepsLaw_L19
    rw [l_32, if_pos (nI_lt (by omega) (by omega)), k_cin _ (by omega) (by omega), q_ix (by omega), e1, q_bnd, k_cin _ (by omega) (by omega), q_let, e2, k_cin _ (by omega) (by omega), e3, q_bnd, k_cin _ (by omega) (by omega), q_let, e4, k_cin _ (by omega) (by omega), e5, q_bnd, k_cin _ (by omega) (by omega), q_let, e6, k_cin _ (by omega) (by omega), e7, q_bnd, k_cin _ (by omega) (by omega), q_let, e8, nI_1]
    exact kL19 h57 h59 r (k + 1) n (by omega) (by omega)
theorem kL99 {tk : Bool} {τ : z_M} (h57 : τ 0 57 = if tk = true then 1 else 0) (h59 : τ 0 59 = nI 0) : ∀ (r k n : Nat), k + r = 400 → r < n → f12_keepsLaw_L99 n (nI (400 + k)) (stps tk τ (989 + 2 * k)) = some ((), stps tk τ 1789)
  | 0, k, n, h1, h2 => by
    obtain ⟨n, rfl⟩ : ∃ m, n = m + 1 := ⟨n - 1, by omega⟩
    obtain rfl : k = 400 := by omega
    unfold f12_keepsLaw_L99
    rw [l_800, if_neg (nI_nlt (by omega) (by omega))]
  | r + 1, k, n, h1, h2 => by
    obtain ⟨n, rfl⟩ : ∃ m, n = m + 1 := ⟨n - 1, by omega⟩
    obtain ⟨x, X, e1, e2⟩ := keeps_at h57 h59 (p := 989 + 2 * k) (by omega) (lo_i k (by omega)).1
    obtain ⟨y, Y, e3, e4⟩ := keeps_at h57 h59 (p := 989 + 2 * k + 1) (by omega) (lo_i k (by omega)).2
    unfold f12_keepsLaw_L99
    rw [l_800, if_pos (nI_lt (by omega) (by omega)), k_cin _ (by omega) (by omega), q_ix (by omega), e1, q_bnd, k_cin _ (by omega) (by omega), q_let, e2, k_cin _ (by omega) (by omega), e3, q_bnd, k_cin _ (by omega) (by omega), q_let, e4, nI_1]
    exact kL99 h57 h59 r (k + 1) n (by omega) (by omega)
theorem kTold {tk : Bool} {τ : z_M} (h57 : τ 0 57 = if tk = true then 1 else 0) (h59 : τ 0 59 = nI 0) : f12_keepsTold (stps tk τ 100) = some ((), stps tk τ 324) := by
  obtain ⟨x0, X0, a0, b0⟩ := keeps_at h57 h59 (p := 100) (c := 0) (k := 6) (by omega) rfl
  obtain ⟨x1, X1, a1, b1⟩ := keeps_at h57 h59 (p := 101) (c := 0) (k := 7) (by omega) rfl
  obtain ⟨x2, X2, a2, b2⟩ := keeps_at h57 h59 (p := 102) (c := 0) (k := 8) (by omega) rfl
  obtain ⟨x3, X3, a3, b3⟩ := keeps_at h57 h59 (p := 103) (c := 0) (k := 9) (by omega) rfl
  obtain ⟨x4, X4, a4, b4⟩ := keeps_at h57 h59 (p := 104) (c := 0) (k := 36) (by omega) rfl
  obtain ⟨x5, X5, a5, b5⟩ := keeps_at h57 h59 (p := 105) (c := 0) (k := 38) (by omega) rfl
  obtain ⟨x6, X6, a6, b6⟩ := keeps_at h57 h59 (p := 106) (c := 0) (k := 40) (by omega) rfl
  obtain ⟨x7, X7, a7, b7⟩ := keeps_at h57 h59 (p := 107) (c := 0) (k := 52) (by omega) rfl
  have c1 := kL98 h57 h59 8 0 z_fu (by omega) (by decide)
  have c2 := kL144 h57 h59 12 0 z_fu (by omega) (by decide)
  have c3 := kL206 h57 h59 48 0 z_fu (by omega) (by decide)
  have c4 := kL236 h57 h59 36 0 z_fu (by omega) (by decide)
  have c5 := kL266 h57 h59 80 0 z_fu (by omega) (by decide)
  unfold f12_keepsTold
  rw [a0, q_bnd, q_let, b0, a1, q_bnd, q_let, b1, a2, q_bnd, q_let, b2, a3, q_bnd, q_let, b3, a4, q_bnd, q_let, b4, a5, q_bnd, q_let, b5, a6, q_bnd, q_let, b6, a7, q_bnd, q_let, b7]
  have c1 : f12_keepsTold_L98 z_fu 0 (stps tk τ (107 + 1)) = f12_keepsTold_J142 (stps tk τ 124) := c1
  have c2 : f12_keepsTold_J142 (stps tk τ 124) = f12_keepsTold_J204 (stps tk τ 160) := c2
  have c3 : f12_keepsTold_J204 (stps tk τ 160) = f12_keepsTold_J234 (stps tk τ 208) := c3
  have c4 : f12_keepsTold_J234 (stps tk τ 208) = f12_keepsTold_J264 (stps tk τ 244) := c4
  have c5 : f12_keepsTold_J264 (stps tk τ 244) = some ((), stps tk τ 324) := c5
  rw [c1, c2, c3, c4, c5]
theorem kLaw {tk : Bool} {τ : z_M} (h57 : τ 0 57 = if tk = true then 1 else 0) (h59 : τ 0 59 = nI 0) : f12_keepsLaw (stps tk τ 924) = some ((), stps tk τ 1789) := by
  obtain ⟨x0, X0, a0, b0⟩ := keeps_at h57 h59 (p := 924) (c := 9) (k := 1) (by omega) rfl
  have c1 := kL19 h57 h59 16 0 z_fu (by omega) (by decide)
  have c2 := kL99 h57 h59 400 0 z_fu (by omega) (by decide)
  have c1 : f12_keepsLaw_L19 z_fu 16 (stps tk τ (924 + 1)) = f12_keepsLaw_J95 (stps tk τ 989) := c1
  have c2 : f12_keepsLaw_J95 (stps tk τ 989) = some ((), stps tk τ 1789) := c2
  unfold f12_keepsLaw
  rw [q_chk _ (by decide), show z_ix 1 = 1 from rfl, a0, q_bnd, q_chk _ (by decide), q_let, b0, c1, c2]
theorem kAll {tk : Bool} {τ : z_M} (h57 : τ 0 57 = if tk = true then 1 else 0) (h59 : τ 0 59 = nI 0) (v : Int32) : f12_image_L35 z_fu v 0 τ = (if v = 0 then some (1, z_set (stps tk τ 1789) 0 3 0) else some (1, stps tk τ 1789)) := by
  have c1 : f12_image_L35 z_fu v 0 τ = f12_image_J63 v (stps tk τ 100) := kL35 h57 h59 v 100 0 z_fu (by omega) (by decide)
  have c2 : f12_image_L69 z_fu v 0 (stps tk τ 324) = f12_image_J98 v (stps tk τ 924) := kL69 h57 h59 v 600 0 z_fu (by omega) (by decide)
  rw [c1]
  unfold f12_image_J63
  rw [kTold h57 h59, q_bnd, c2]
  unfold f12_image_J98
  rw [kLaw h57 h59, q_bnd]
  split <;> rfl
/-- taken: nothing but the image has changed -/
theorem tk_all {τ : z_M} : ∀ {p : Nat}, p ≤ 1789 → (∀ c, c ≠ 0 → c ≠ 33 → stps true τ p c = τ c) ∧ (∀ k, k ≠ 59 → stps true τ p 0 k = τ 0 k) ∧ (∀ j, j < p → stps true τ p 33 j = τ (loc j).1 (loc j).2)
  | 0, _ => ⟨fun _ _ _ => rfl, fun _ _ => rfl, fun j hj => absurd hj (by omega)⟩
  | p + 1, hp => by
    obtain ⟨i1, i2, i3⟩ := tk_all (τ := τ) (p := p) (by omega)
    obtain ⟨-, h33, -, h0⟩ := loc_ok p (by omega)
    have ev : stps true τ p (loc p).1 (loc p).2 = τ (loc p).1 (loc p).2 := by
      by_cases e : (loc p).1 = 0
      · rw [e]; exact i2 _ (h0 e).2
      · rw [i1 _ e h33]
    have es : stps true τ (p + 1) = z_set (z_set (stps true τ p) 0 59 (nI (p + 1))) 33 p (τ (loc p).1 (loc p).2) := by
      show stp true p (stps true τ p) = _
      unfold stp
      rw [if_pos rfl, ev]
      apply k_set_same
      rw [s_ne h33]
      by_cases e : (loc p).1 = 0
      · rw [e, s_kn (h0 e).2, i2 _ (h0 e).2]
      · rw [s_ne e, i1 _ e h33]
    rw [es]
    refine ⟨fun c a b => ?_, fun k a => ?_, fun j hj => ?_⟩
    · rw [s_ne b, s_ne a]; exact i1 c a b
    · rw [s_ne (by omega), s_kn a]; exact i2 k a
    · by_cases e : j = p
      · rw [e, s_eq]
      · rw [s_kn e, s_ne (by omega)]; exact i3 j (by omega)
/-- brought back -/
theorem rs_all {τ : z_M} : ∀ {p : Nat}, p ≤ 1789 → stps false τ p 33 = τ 33 ∧ (∀ j, j < p → stps false τ p (loc j).1 (loc j).2 = τ 33 j) ∧ (∀ c, 31 < c → stps false τ p c = τ c) ∧ ∀ c k, (∀ j, j < p → ¬ (c = (loc j).1 ∧ k = (loc j).2)) → ¬ (c = 0 ∧ k = 59) → stps false τ p c k = τ c k
  | 0, _ => ⟨rfl, fun j hj => absurd hj (by omega), fun _ _ => rfl, fun _ _ _ _ => rfl⟩
  | p + 1, hp => by
    obtain ⟨i1, i2, i3, i4⟩ := rs_all (τ := τ) (p := p) (by omega)
    obtain ⟨hpos, h33, h31, h0⟩ := loc_ok p (by omega)
    have es : stps false τ (p + 1) = z_set (z_set (stps false τ p) 0 59 (nI (p + 1))) (loc p).1 (loc p).2 (τ 33 p) := by
      show stp false p (stps false τ p) = _
      unfold stp
      rw [if_neg (by decide), i1]
    have hother : ∀ c k, ¬ (c = (loc p).1 ∧ k = (loc p).2) → ¬ (c = 0 ∧ k = 59) → stps false τ (p + 1) c k = stps false τ p c k := by
      intro c k a b
      rw [es]
      by_cases e : c = (loc p).1
      · rw [e, s_kn (fun q => a ⟨e, q⟩)]
        by_cases e2 : (loc p).1 = 0
        · rw [e2, s_kn (fun q => b ⟨e.trans e2, q⟩)]
        · rw [s_ne e2]
      · rw [s_ne e]
        by_cases e2 : c = 0
        · rw [e2, s_kn (fun q => b ⟨e2, q⟩)]
        · rw [s_ne e2]
    refine ⟨?_, fun j hj => ?_, fun c hc => ?_, fun c k a b => ?_⟩
    · rw [es, s_ne (fun q => h33 q.symm), s_ne (by omega)]; exact i1
    · by_cases e : j = p
      · rw [e, es, s_eq]
      · obtain ⟨hpj, -, -, h0j⟩ := loc_ok j (by omega)
        rw [hother _ _ (fun q => e (by rw [← hpj, ← hpos, q.1, q.2])) (fun q => (h0j q.1).2 q.2)]
        exact i2 j (by omega)
    · rw [es, s_ne (by omega), s_ne (by omega)]; exact i3 c hc
    · rw [hother c k (a p (by omega)) b]
      exact i4 c k (fun j hj => a j (by omega)) b
/-- the rows of an image -/
theorem im_rows {I : Nat → Int32} {X : z_M} (h : ∀ j, j < 1789 → X (loc j).1 (loc j).2 = I j) : (∀ k, k < 100 → X 1 k = I k) ∧ (∀ k, k < 8 → m_sc X k = I (100 + k)) ∧ (∀ k, k < 8 → X 4 k = I (108 + 2 * k) ∧ X 5 k = I (109 + 2 * k)) ∧ (∀ k, k < 12 → X 29 k = I (124 + 3 * k) ∧ X 30 k = I (125 + 3 * k) ∧ X 31 k = I (126 + 3 * k)) ∧ (∀ k, k < 48 → X 17 k = I (160 + k)) ∧ (∀ k, k < 36 → X 18 k = I (208 + k)) ∧ (∀ k, k < 80 → X 19 k = I (244 + k)) ∧ (∀ k, k < 600 → X 6 k = I (324 + k)) ∧ X 9 1 = I 924 ∧ (∀ k, k < 16 → X 10 (16 + k) = I (925 + 4 * k) ∧ X 11 (16 + k) = I (926 + 4 * k) ∧ X 12 (16 + k) = I (927 + 4 * k) ∧ X 13 (16 + k) = I (928 + 4 * k)) ∧ ∀ k, k < 400 → X 14 (400 + k) = I (989 + 2 * k) ∧ X 15 (400 + k) = I (990 + 2 * k) := by
  have go : ∀ {j c k : Nat}, j < 1789 → loc j = (c, k) → X c k = I j := by
    intro j c k hj e
    have := h j hj
    rw [e] at this; exact this
  refine ⟨fun k hk => go (by omega) (lo_a k hk), fun k hk => ?_, fun k hk => ⟨go (by omega) (lo_b k hk).1, ?_⟩, fun k hk => ⟨go (by omega) (lo_c k hk).1, ?_, ?_⟩, fun k hk => go (by omega) (lo_d k hk), fun k hk => go (by omega) (lo_e k hk), fun k hk => go (by omega) (lo_f k hk), fun k hk => go (by omega) (lo_g k hk), go (by omega) rfl, fun k hk => ⟨go (by omega) (lo_h k hk).1, ?_, ?_, ?_⟩, fun k hk => ⟨go (by omega) (lo_i k hk).1, ?_⟩⟩
  · rcases (show k = 0 ∨ k = 1 ∨ k = 2 ∨ k = 3 ∨ k = 4 ∨ k = 5 ∨ k = 6 ∨ k = 7 by omega) with rfl | rfl | rfl | rfl | rfl | rfl | rfl | rfl
    · exact go (j := 100) (c := 0) (k := 6) (by omega) rfl
    · exact go (j := 101) (c := 0) (k := 7) (by omega) rfl
    · exact go (j := 102) (c := 0) (k := 8) (by omega) rfl
    · exact go (j := 103) (c := 0) (k := 9) (by omega) rfl
    · exact go (j := 104) (c := 0) (k := 36) (by omega) rfl
    · exact go (j := 105) (c := 0) (k := 38) (by omega) rfl
    · exact go (j := 106) (c := 0) (k := 40) (by omega) rfl
    · exact go (j := 107) (c := 0) (k := 52) (by omega) rfl
  · rw [show 109 + 2 * k = 108 + 2 * k + 1 by omega]; exact go (by omega) (lo_b k hk).2
  · rw [show 125 + 3 * k = 124 + 3 * k + 1 by omega]; exact go (by omega) (lo_c k hk).2.1
  · rw [show 126 + 3 * k = 124 + 3 * k + 2 by omega]; exact go (by omega) (lo_c k hk).2.2
  · rw [show 926 + 4 * k = 925 + 4 * k + 1 by omega]; exact go (by omega) (lo_h k hk).2.1
  · rw [show 927 + 4 * k = 925 + 4 * k + 2 by omega]; exact go (by omega) (lo_h k hk).2.2.1
  · rw [show 928 + 4 * k = 925 + 4 * k + 3 by omega]; exact go (by omega) (lo_h k hk).2.2.2
  · rw [show 990 + 2 * k = 989 + 2 * k + 1 by omega]; exact go (by omega) (lo_i k hk).2
/-- what the copy of a garden needs of it -/
theorem G_all_n {H g : Nat} {σ : z_M} {row sc sto lin tH tT tW rea wor pla boo : Nat → Int32} {lm : Int32} {lW lF lN lT op ar : Nat → Int32} (h : G_all H σ g row sc sto lin tH tT tW rea wor pla boo lm lW lF lN lT op ar) : ∃ n3 n6 k6 n9 n12, σ (g + 3) 2 = nI n3 ∧ n3 ≤ 16 ∧ σ (g + 6) 2 = nI n6 ∧ n6 ≤ 16 ∧ σ (g + 6) 3 = nI k6 ∧ k6 ≤ 400 ∧ σ (g + 9) 2 = nI n9 ∧ n9 ≤ 12 ∧ σ (g + 12) 2 = nI n12 ∧ n12 ≤ 16 := by
  obtain ⟨g1, g2, g3, ⟨n3, a1, a2, -⟩, ⟨n6, k6, b1, b2, b3, -, b4, -⟩, ⟨n9, c1, c2, -⟩, ⟨n12, d1, d2, -⟩, -⟩ := h
  exact ⟨n3, n6, k6, n9, n12, a2, a1, b3, b1, b4, b2, c2, c1, d2, d1⟩
theorem nI_le_eq {a b : Nat} (h : nI a = nI b) (ha : a < 2 ^ 31) (hb : b < 2 ^ 31) : a = b := (nI_eq ha hb).mp h
theorem p_image0 : p_image Rel0 := by
  intro p1 σ τ hp hR
  replace hR := Rel0_told hR
  unfold f12_image f11_image
  rw [q_let]
  generalize z_set τ 0 0 0 = τ at hR ⊢
  have hR0 := hR
  obtain ⟨⟨H, hN, hU⟩, hI, hT, hF, hC⟩ := hR
  rcases hp with rfl | rfl
  · rw [i_00, i_00]
    obtain ⟨h58, h01⟩ := hI
    rcases h01 with h0 | ⟨h1, H', hK⟩
    · rw [h0, i_00, ← h58, h0, i_00]
      exact ⟨0, σ, τ, rfl, rfl, hR0⟩
    · rw [h1, i_10, ← h58, h1, i_10]
      obtain ⟨n3, n6, k6, n9, n12, x1, x2, x3, x4, x5, x6, x7, x8, x9, x10⟩ := G_all_n hK
      obtain ⟨σ', y1, y2, y3, y4, y5, y6, y7, y8, y9, y10, y11, y12, y13, y14, y15, y16, y17, y18, y19, y20, y21⟩ := e1_copy (g' := 1) (g := 24) (σ := σ) (.inr ⟨rfl, rfl⟩) n3 n6 k6 n9 n12 x1 hC.2.2.2.2.2.2.2.1 x3 x5 x7 hC.2.2.2.2.2.2.2.2.1 x9 hC.2.2.2.2.2.2.2.2.2 x2 x4 x6 x8 x10
      let τ1 := z_set (z_set (z_set τ 0 57 0) 0 58 1) 0 59 0
      have hall := kAll (tk := false) (τ := τ1) rfl rfl 0
      rw [if_pos rfl] at hall
      have t1 : ∀ c, c ≠ 0 → τ1 c = τ c := fun c hc => by
        show z_set (z_set (z_set τ 0 57 0) 0 58 1) 0 59 0 c = _
        rw [s_ne hc, s_ne hc, s_ne hc]
      have t0 : ∀ k, k ≠ 57 → k ≠ 58 → k ≠ 59 → τ1 0 k = τ 0 k := fun k a b c => by
        show z_set (z_set (z_set τ 0 57 0) 0 58 1) 0 59 0 0 k = _
        rw [s_kn c, s_kn b, s_kn a]
      obtain ⟨r1, r2, r3, r4⟩ := rs_all (τ := τ1) (p := 1789) (by omega)
      let τ2 := z_set (stps false τ1 1789) 0 3 0
      have u : ∀ j, j < 1789 → τ2 (loc j).1 (loc j).2 = τ 33 j := fun j hj => by
        have hne : ¬ ((loc j).1 = 0 ∧ (loc j).2 = 3) := by
          intro q
          obtain ⟨hpj, -⟩ := loc_ok j hj
          rw [q.1, q.2] at hpj
          have : j = 97 := by rw [← hpj]; rfl
          subst this
          exact absurd q.1 (by decide)
        show z_set (stps false τ1 1789) 0 3 0 (loc j).1 (loc j).2 = _
        by_cases e : (loc j).1 = 0
        · rw [e, s_kn (fun q => hne ⟨e, q⟩), ← e, r2 j hj, t1 33 (by omega)]
        · rw [s_ne e, r2 j hj, t1 33 (by omega)]
      obtain ⟨w1, w2, w3, w4, w5, w6, w7, w8, w9, w10, w11⟩ := im_rows u
      have nl : ∀ k, k = 3 ∨ k = 5 ∨ k = 14 ∨ k = 34 ∨ k = 35 ∨ k = 58 → ∀ j, j < 1789 → ¬ (0 = (loc j).1 ∧ k = (loc j).2) := by
        intro k hk j hj q
        obtain ⟨hpj, -⟩ := loc_ok j hj
        rw [← q.1, ← q.2] at hpj
        rcases hk with rfl | rfl | rfl | rfl | rfl | rfl
        · have : j = 97 := by rw [← hpj]; rfl
          subst this; exact absurd q.1 (by decide)
        · have : j = 99 := by rw [← hpj]; rfl
          subst this; exact absurd q.1 (by decide)
        · have : j = 108 := by rw [← hpj]; rfl
          subst this; exact absurd q.1 (by decide)
        · have : j = 128 := by rw [← hpj]; rfl
          subst this; exact absurd q.1 (by decide)
        · have : j = 129 := by rw [← hpj]; rfl
          subst this; exact absurd q.1 (by decide)
        · have : j = 152 := by rw [← hpj]; rfl
          subst this; exact absurd q.1 (by decide)
      have v0 : ∀ k, k = 5 ∨ k = 14 ∨ k = 34 ∨ k = 35 → τ2 0 k = τ 0 k := fun k hk => by
        show z_set (stps false τ1 1789) 0 3 0 0 k = _
        rw [s_kn (by omega), r4 0 k (nl k (by omega)) (by omega), t0 k (by omega) (by omega) (by omega)]
      have v58 : τ2 0 58 = 1 := by
        show z_set (stps false τ1 1789) 0 3 0 0 58 = _
        rw [s_kn (by omega), r4 0 58 (nl 58 (by omega)) (by omega)]
        show z_set (z_set (z_set τ 0 57 0) 0 58 1) 0 59 0 0 58 = 1
        rw [s_kn (by omega), s_eq]
      have v7 : ∀ k, τ2 7 k = τ 7 k := fun k => by
        show z_set (stps false τ1 1789) 0 3 0 7 k = _
        rw [s_ne (by omega), r4 7 k (fun j hj q => ?_) (by omega), t1 7 (by omega)]
        have : ∀ j, j < 1789 → (loc j).1 ≠ 7 := by decide +kernel
        exact this j hj q.1.symm
      have v8 : ∀ k, τ2 8 k = τ 8 k := fun k => by
        show z_set (stps false τ1 1789) 0 3 0 8 k = _
        rw [s_ne (by omega), r4 8 k (fun j hj q => ?_) (by omega), t1 8 (by omega)]
        have : ∀ j, j < 1789 → (loc j).1 ≠ 8 := by decide +kernel
        exact this j hj q.1.symm
      have v33 : τ2 33 = τ 33 := by
        show z_set (stps false τ1 1789) 0 3 0 33 = _
        rw [s_ne (by omega), r1, t1 33 (by omega)]
      have zf : f10_forget σ' = some ((), z_set σ' 58 2 0) := rfl
      have sg : ∀ c, c ≠ 58 → z_set σ' 58 2 0 c = σ' c := fun c hc => s_ne hc
      have gn : R_now H' (z_set σ' 58 2 0) τ2 := by
        refine G_all_cong (g' := 1) hK (fun k hk => by rw [sg _ (by omega)]; exact y3 k hk) (fun k hk => by rw [sg _ (by omega)]; exact y4 k hk) (fun k hk => by rw [sg _ (by omega)]; exact y5 k hk) (by rw [sg _ (by omega), y6]; exact x1.symm) (fun n k e _ hk => ?_) ⟨by rw [sg _ (by omega), y9]; exact x3.symm, by rw [sg _ (by omega), y10]; exact x5.symm⟩ (fun n k e _ hk => ?_) (fun n k e _ hk => ?_) (by rw [sg _ (by omega), y13]; exact x7.symm) (fun n k e _ hk => ?_) (by rw [sg _ (by omega), y16]; exact x9.symm) (fun n k e _ hk => ?_) (fun k hk => by rw [sg _ (by omega)]; exact y19 k hk) (fun k hk => by rw [sg _ (by omega)]; exact y20 k hk) ?_ w1 w2 (fun k hk => (w3 k hk).1) (fun k hk => (w3 k hk).2) w4 w5 w6 w7 w8 w9 w10 w11
        · rw [x1] at e
          have := nI_le_eq e (by omega) (by omega)
          rw [sg _ (by omega)]; exact y8 k (by omega)
        · rw [x3] at e
          have := nI_le_eq e (by omega) (by omega)
          rw [sg _ (by omega)]; exact y11 k (by omega)
        · rw [x5] at e
          have := nI_le_eq e (by omega) (by omega)
          rw [sg _ (by omega)]; exact y12 k (by omega)
        · rw [x7] at e
          have := nI_le_eq e (by omega) (by omega)
          rw [sg _ (by omega)]; exact y15 k (by omega)
        · rw [x9] at e
          have := nI_le_eq e (by omega) (by omega)
          rw [sg _ (by omega)]; exact y18 k (by omega)
        · exact ⟨fun k a b => by rw [sg _ (by omega)]; exact y21.1 k a b, fun k a => by rw [sg _ (by omega)]; exact y21.2.1 k a, fun k a => by rw [sg _ (by omega), sg _ (by omega), sg _ (by omega), sg _ (by omega)]; exact y21.2.2 k a⟩
      refine ⟨1, z_set σ' 58 2 0, τ2, ?_, ?_, ⟨H', gn, ?_⟩, ⟨?_, .inr ⟨?_, H', ?_⟩⟩, ?_, ?_, ?_⟩
      · rw [y1, q_bnd, zf, q_bnd]
      · unfold f12_image_J18
        rw [q_chk _ (by decide), q_let, q_let, q_let]
        exact hall
      · exact R_und_none (σ' := z_set σ' 58 2 0) (τ' := τ2) hU (by rw [s_kn (by omega), y2 58 (by omega)]) s_eq s_eq
      · rw [sg 0 (by omega), y2 0 (by omega), h1, v58]
      · rw [sg 0 (by omega), y2 0 (by omega)]; exact h1
      · rw [v33]
        exact G_all_frame hK (fun c a b => by rw [sg c (by omega)]; exact y2 c (by omega))
      · obtain ⟨n, q1, q2, q3, q4⟩ := hT
        refine ⟨n, q1, by rw [sg 96 (by omega), y2 96 (by omega)]; exact q2, by rw [v0 14 (by omega)]; exact q3, fun k hk => ?_⟩
        rw [sg 97 (by omega), y2 97 (by omega), v7 k]; exact q4 k hk
      · rw [sg 101 (by omega), y2 101 (by omega), v0 34 (by omega), v0 35 (by omega)]; exact hF
      · obtain ⟨e1, e2, e3, e4, e5, e6, e7, e8, e9, e10⟩ := hC
        refine ⟨by rw [sg 50 (by omega), y2 50 (by omega)]; exact e1, by rw [sg 51 (by omega), y2 51 (by omega)]; exact e2, by rw [v0 5 (by omega)]; exact e3, fun k hk => by rw [v8 k]; exact e4 k hk, ?_, ?_, ?_, ?_, ?_, ?_⟩
        · rw [sg 4 (by omega)]; exact y7
        · rw [sg 10 (by omega)]; exact y14
        · rw [sg 13 (by omega)]; exact y17
        · rw [sg 27 (by omega), y2 27 (by omega)]; exact e8
        · rw [sg 33 (by omega), y2 33 (by omega)]; exact e9
        · rw [sg 36 (by omega), y2 36 (by omega)]; exact e10
  · rw [i_10, i_10]
    obtain ⟨n3, n6, k6, n9, n12, x1, x2, x3, x4, x5, x6, x7, x8, x9, x10⟩ := G_all_n hN
    obtain ⟨σ', y1, y2, y3, y4, y5, y6, y7, y8, y9, y10, y11, y12, y13, y14, y15, y16, y17, y18, y19, y20, y21⟩ := e1_copy (g' := 24) (g := 1) (σ := σ) (.inl ⟨rfl, rfl⟩) n3 n6 k6 n9 n12 x1 hC.2.2.2.2.1 x3 x5 x7 hC.2.2.2.2.2.1 x9 hC.2.2.2.2.2.2.1 x2 x4 x6 x8 x10
    let τ1 := z_set (z_set (z_set τ 0 57 1) 0 58 1) 0 59 0
    have hall := kAll (tk := true) (τ := τ1) rfl rfl 1
    rw [if_neg (by decide)] at hall
    have t1 : ∀ c, c ≠ 0 → τ1 c = τ c := fun c hc => by
      show z_set (z_set (z_set τ 0 57 1) 0 58 1) 0 59 0 c = _
      rw [s_ne hc, s_ne hc, s_ne hc]
    have t0 : ∀ k, k ≠ 57 → k ≠ 58 → k ≠ 59 → τ1 0 k = τ 0 k := fun k a b c => by
      show z_set (z_set (z_set τ 0 57 1) 0 58 1) 0 59 0 0 k = _
      rw [s_kn c, s_kn b, s_kn a]
    obtain ⟨r1, r2, r3⟩ := tk_all (τ := τ1) (p := 1789) (by omega)
    let τ2 := stps true τ1 1789
    have f1 : ∀ c, c ≠ 0 → c ≠ 33 → τ2 c = τ c := fun c a b => (r1 c a b).trans (t1 c a)
    have f0 : ∀ k, k ≠ 57 → k ≠ 58 → k ≠ 59 → τ2 0 k = τ 0 k := fun k a b c => (r2 k c).trans (t0 k a b c)
    have v58 : τ2 0 58 = 1 := by
      show stps true τ1 1789 0 58 = 1
      rw [r2 58 (by omega)]
      show z_set (z_set (z_set τ 0 57 1) 0 58 1) 0 59 0 0 58 = 1
      rw [s_kn (by omega), s_eq]
    have u : ∀ j, j < 1789 → τ (loc j).1 (loc j).2 = τ2 33 j := fun j hj => by
      obtain ⟨-, -, -, h0⟩ := loc_ok j hj
      rw [show τ2 33 j = τ1 (loc j).1 (loc j).2 from r3 j hj]
      by_cases e : (loc j).1 = 0
      · have hne : (loc j).2 ≠ 58 := by
          intro q
          obtain ⟨hpj, -⟩ := loc_ok j hj
          rw [e, q] at hpj
          have : j = 152 := by rw [← hpj]; rfl
          subst this; exact absurd e (by decide)
        rw [e, t0 _ (h0 e).1 hne (h0 e).2]
      · rw [t1 _ e]
    obtain ⟨w1, w2, w3, w4, w5, w6, w7, w8, w9, w10, w11⟩ := im_rows u
    have sg : ∀ c, c ≠ 0 → z_set σ' 0 2 1 c = σ' c := fun c hc => s_ne hc
    have hm : m_sc τ2 = m_sc τ := by
      unfold m_sc
      rw [f0 6 (by omega) (by omega) (by omega), f0 7 (by omega) (by omega) (by omega), f0 8 (by omega) (by omega) (by omega), f0 9 (by omega) (by omega) (by omega), f0 36 (by omega) (by omega) (by omega), f0 38 (by omega) (by omega) (by omega), f0 40 (by omega) (by omega) (by omega), f0 52 (by omega) (by omega) (by omega)]
    refine ⟨1, z_set σ' 0 2 1, τ2, ?_, ?_, ⟨H, ?_, ?_⟩, ⟨?_, .inr ⟨s_eq, H, ?_⟩⟩, ?_, ?_, ?_⟩
    · rw [y1, q_bnd, q_let]
    · unfold f12_image_J18
      rw [q_chk _ (by decide), q_let, q_let, q_let]
      exact hall
    · unfold R_now
      rw [hm, f1 1 (by omega) (by omega), f1 4 (by omega) (by omega), f1 5 (by omega) (by omega), f1 29 (by omega) (by omega), f1 30 (by omega) (by omega), f1 31 (by omega) (by omega), f1 17 (by omega) (by omega), f1 18 (by omega) (by omega), f1 19 (by omega) (by omega), f1 6 (by omega) (by omega), f1 9 (by omega) (by omega), f1 10 (by omega) (by omega), f1 11 (by omega) (by omega), f1 12 (by omega) (by omega), f1 13 (by omega) (by omega), f1 14 (by omega) (by omega), f1 15 (by omega) (by omega)]
      exact G_all_frame hN (fun c a b => by rw [sg c (by omega)]; exact y2 c (by omega))
    · exact R_und_cong hU (fun c a b => by rw [sg c (by omega)]; exact y2 c (by omega)) (f1 2 (by omega) (by omega)) (f0 3 (by omega) (by omega) (by omega))
    · rw [s_eq, v58]
    · refine G_all_cong (g' := 24) hN (fun k hk => by rw [sg _ (by omega)]; exact y3 k hk) (fun k hk => by rw [sg _ (by omega)]; exact y4 k hk) (fun k hk => by rw [sg _ (by omega)]; exact y5 k hk) (by rw [sg _ (by omega), y6]; exact x1.symm) (fun n k e _ hk => ?_) ⟨by rw [sg _ (by omega), y9]; exact x3.symm, by rw [sg _ (by omega), y10]; exact x5.symm⟩ (fun n k e _ hk => ?_) (fun n k e _ hk => ?_) (by rw [sg _ (by omega), y13]; exact x7.symm) (fun n k e _ hk => ?_) (by rw [sg _ (by omega), y16]; exact x9.symm) (fun n k e _ hk => ?_) (fun k hk => by rw [sg _ (by omega)]; exact y19 k hk) (fun k hk => by rw [sg _ (by omega)]; exact y20 k hk) ?_ (fun k hk => (w1 k hk).symm) (fun k hk => (w2 k hk).symm) (fun k hk => (w3 k hk).1.symm) (fun k hk => (w3 k hk).2.symm) (fun k hk => ⟨(w4 k hk).1.symm, (w4 k hk).2.1.symm, (w4 k hk).2.2.symm⟩) (fun k hk => (w5 k hk).symm) (fun k hk => (w6 k hk).symm) (fun k hk => (w7 k hk).symm) (fun k hk => (w8 k hk).symm) w9.symm (fun k hk => ⟨(w10 k hk).1.symm, (w10 k hk).2.1.symm, (w10 k hk).2.2.1.symm, (w10 k hk).2.2.2.symm⟩) (fun k hk => ⟨(w11 k hk).1.symm, (w11 k hk).2.symm⟩)
      · rw [x1] at e
        have := nI_le_eq e (by omega) (by omega)
        rw [sg _ (by omega)]; exact y8 k (by omega)
      · rw [x3] at e
        have := nI_le_eq e (by omega) (by omega)
        rw [sg _ (by omega)]; exact y11 k (by omega)
      · rw [x5] at e
        have := nI_le_eq e (by omega) (by omega)
        rw [sg _ (by omega)]; exact y12 k (by omega)
      · rw [x7] at e
        have := nI_le_eq e (by omega) (by omega)
        rw [sg _ (by omega)]; exact y15 k (by omega)
      · rw [x9] at e
        have := nI_le_eq e (by omega) (by omega)
        rw [sg _ (by omega)]; exact y18 k (by omega)
      · exact ⟨fun k a b => by rw [sg _ (by omega)]; exact y21.1 k a b, fun k a => by rw [sg _ (by omega)]; exact y21.2.1 k a, fun k a => by rw [sg _ (by omega), sg _ (by omega), sg _ (by omega), sg _ (by omega)]; exact y21.2.2 k a⟩
    · obtain ⟨n, q1, q2, q3, q4⟩ := hT
      refine ⟨n, q1, by rw [sg 96 (by omega), y2 96 (by omega)]; exact q2, by rw [f0 14 (by omega) (by omega) (by omega)]; exact q3, fun k hk => ?_⟩
      rw [sg 97 (by omega), y2 97 (by omega), f1 7 (by omega) (by omega)]; exact q4 k hk
    · rw [sg 101 (by omega), y2 101 (by omega), f0 34 (by omega) (by omega) (by omega), f0 35 (by omega) (by omega) (by omega)]; exact hF
    · obtain ⟨e1, e2, e3, e4, e5, e6, e7, e8, e9, e10⟩ := hC
      refine ⟨by rw [sg 50 (by omega), y2 50 (by omega)]; exact e1, by rw [sg 51 (by omega), y2 51 (by omega)]; exact e2, by rw [f0 5 (by omega) (by omega) (by omega)]; exact e3, by rw [f1 8 (by omega) (by omega)]; exact e4, ?_, ?_, ?_, ?_, ?_, ?_⟩
      · rw [sg 4 (by omega), y2 4 (by omega)]; exact e5
      · rw [sg 10 (by omega), y2 10 (by omega)]; exact e6
      · rw [sg 13 (by omega), y2 13 (by omega)]; exact e7
      · rw [sg 27 (by omega)]; exact y7
      · rw [sg 33 (by omega)]; exact y14
      · rw [sg 36 (by omega)]; exact y17
