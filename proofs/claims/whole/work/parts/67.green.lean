/-! greenhouses -/
theorem sb_iff {a b : Nat} (ha : a < 256) : dN a b = 0 ↔ sb a b := by
  constructor
  · intro h i hi; exact dN_0 ha h i hi
  · intro h
    apply e_ext (dN_lt ha b) (by omega)
    intro i _
    rw [t_dN ha, Nat.zero_testBit]
    cases q : a.testBit i
    · rfl
    · rw [h i q]; rfl
theorem pc_dN {s h : Nat} (hs : s < 256) (hh : h < 8) (hb : s.testBit h = true) : pc s = pc (dN s (2 ^ h)) + 1 := by
  unfold pc
  rw [cN_ws, cN_ws]
  exact ws_add (w := fun _ => 1) hh (by rw [t_dN hs, t_pow]; simp) hb (fun i _ hne => by
    have hn : ¬ h = i := fun q => hne q.symm
    rw [t_dN hs, t_pow]; simp [hn])
theorem s_rem {a d : Nat} (ha : a < 2 ^ 31) (h0 : 0 < d) (hd : d < 2 ^ 31) : z_rem (nI a) (nI d) = nI (a % d) := pk_rem ha h0 hd
theorem aft_le {c b x k : Nat} (hc : c ≤ 999) (hx : x ≤ c) (hb : b ≤ 1000 * k + c) : aft c b x ≤ 1000 * (k + 1) + c := by
  unfold aft
  split <;> omega
/-- the reference's sums -/
theorem e12_sumOf {H : Nat} {e : Nat → Nat} {τ : z_M} (hH : H ≤ 8) (eh : τ 0 6 = nI H) (he : ∀ h, h < 8 → e h ≤ 99 ∧ f12_highOf (nI h) τ = some (nI (e h), τ)) {s : Nat} (hs : s < 256) : ∀ (r k n : Nat), k + r = H → r < n → f12_sumOf_L4 n (nI s) (nI (ws e s.testBit k)) (nI k) τ = some (nI (ws e s.testBit H), τ)
  | 0, k, n, h1, h2 => by
    obtain ⟨n, rfl⟩ : ∃ m, n = m + 1 := ⟨n - 1, by omega⟩
    obtain rfl : k = H := by omega
    unfold f12_sumOf_L4
    rw [eh, if_neg (nI_nlt (by omega) (by omega))]
  | r + 1, k, n, h1, h2 => by
    obtain ⟨n, rfl⟩ : ∃ m, n = m + 1 := ⟨n - 1, by omega⟩
    have ih := e12_sumOf hH eh he hs r (k + 1) n (by omega) (by omega)
    rw [ws_s (k := k)] at ih
    unfold f12_sumOf_L4
    rw [eh, if_pos (nI_lt (by omega) (by omega)), k_bit s hs k (by omega), (he k (by omega)).2, q_bnd, nI_add, nI_1]
    by_cases hb : s.testBit k = true
    · rw [if_pos hb] at ih; rw [if_pos hb, if_pos rfl]; exact ih
    · rw [if_neg hb] at ih; rw [if_neg hb, if_neg (by decide)]; exact ih
theorem g_L78 {H c all s : Nat} {e A : Nat → Nat} {τ0 : z_M} (hc : c ≤ 999) (hs0 : 0 < s) (hs : s < 256) (hsum : ∀ τ : z_M, τ 0 = τ0 0 → τ 1 = τ0 1 → ∀ q, q < 256 → f12_sumOf (nI q) τ = some (nI (ws e q.testBit H), τ) ∧ ws e q.testBit H ≤ 900) (K : Int32 → Int32 → Int32 → z_M → Option (Int32 × z_M)) : ∀ (p n : Nat) (τ : z_M) (v : Nat), sb p s → p < n → (∀ x, x ≠ 32 → τ x = τ0 x) → (∀ j, j < s → τ 32 j = nI (A j) ∧ A j ≤ 100000) → τ 32 s = nI v → v ≤ 100000 → (∀ q, sb q s → p < q → ws e q.testBit H ≤ c → v ≤ A (dN s q) + 1) → (v = 100000 ∨ ∃ q, sb q s ∧ q ≠ 0 ∧ ws e q.testBit H ≤ c ∧ v = A (dN s q) + 1) → ∃ τ' v', f12_greenhouses_L78 K n (nI c) (nI all) (nI s) (nI p) τ = K (nI c) (nI all) (nI (s + 1)) τ' ∧ (∀ x, x ≠ 32 → τ' x = τ0 x) ∧ (∀ j, j < s → τ' 32 j = nI (A j)) ∧ τ' 32 s = nI v' ∧ v' ≤ 100000 ∧ (∀ q, sb q s → q ≠ 0 → ws e q.testBit H ≤ c → v' ≤ A (dN s q) + 1) ∧ (v' = 100000 ∨ ∃ q, sb q s ∧ q ≠ 0 ∧ ws e q.testBit H ≤ c ∧ v' = A (dN s q) + 1) := by
  intro p
  induction p using Nat.strongRecOn with
  | ind p ih =>
    intro n τ v hps hpn hf hA hv hv1 I1 I2
    obtain ⟨n, rfl⟩ : ∃ m, n = m + 1 := ⟨n - 1, by omega⟩
    have hp256 := sb_lt hps hs
    conv => enter [1, τ', 1, v', 1, 1]; unfold f12_greenhouses_L78
    unfold f12_greenhouses_J134 f12_greenhouses_J145
    by_cases hp0 : p = 0
    · have c0 : ¬ (0 : Int32) < nI p := k_ngt (by omega)
      refine ⟨τ, v, ?_, hf, fun j hj => (hA j hj).1, hv, hv1, fun q q1 q2 q3 => I1 q q1 (by omega) q3, I2⟩
      rw [if_neg c0, nI_1]
    · have c0 : (0 : Int32) < nI p := k_gt (by omega) (by omega)
      obtain ⟨sm1, sm2⟩ := hsum τ (hf 0 (by omega)) (hf 1 (by omega)) p hp256
      have hnext : (p - 1) &&& s < p := Nat.lt_of_le_of_lt Nat.and_le_left (by omega)
      have hnsb : sb ((p - 1) &&& s) s := fun i hi => by
        rw [Nat.testBit_and] at hi
        cases h : s.testBit i
        · rw [h] at hi; simp at hi
        · rfl
      have hstep : ∀ q, sb q s → (p - 1) &&& s < q → q = p ∨ p < q := fun q q1 q2 => by
        rcases Nat.lt_trichotomy q p with h | h | h
        · have := sb_prev 8 p q s hp256 hps q1 h; omega
        · exact .inl h
        · exact .inr h
      obtain ⟨i, hi⟩ := ne0_bit hp0
      have hdl : dN s p < s := dN_lt_self hs (hps i hi) hi
      obtain ⟨hA1, hA2⟩ := hA (dN s p) hdl
      have hj : nI p - 1 = nI (p - 1) := by rw [l_1, pk_sub (by omega)]
      by_cases hcs : c < ws e p.testBit H
      · obtain ⟨τ', v', x1, x2⟩ := ih _ hnext n τ v hnsb (by omega) hf hA hv hv1 (fun q q1 q2 q3 => by
          rcases hstep q q1 q2 with h | h
          · rw [h] at q3; omega
          · exact I1 q q1 h q3) I2
        refine ⟨τ', v', ?_, x2⟩
        rw [if_pos c0, sm1, q_bnd, if_pos (nI_lt hcs (by omega)), hj, k_and]
        exact x1
      · rw [if_pos c0, sm1, q_bnd, if_neg (nI_nlt (by omega) (by omega)), k_dN hs, k_cin _ (Nat.lt_trans hdl hs) (by omega), k_cin _ hs (by omega), k_cin _ (Nat.lt_trans hdl hs) (by omega), k_cin _ hs (by omega), q_ix (show dN s p < 2 ^ 31 by omega), q_ix (show s < 2 ^ 31 by omega), hA1, hv, nI_1, q_let, hj, k_and]
        by_cases hlt : A (dN s p) + 1 < v
        · obtain ⟨τ', v', x1, x2, x3⟩ := ih _ hnext n (z_set τ 32 s (nI (A (dN s p) + 1))) (A (dN s p) + 1) hnsb (by omega) (fun x hx => by rw [s_ne hx]; exact hf x hx) (fun j hj => by rw [s_kn (by omega)]; exact hA j hj) s_eq (by omega) (fun q q1 q2 q3 => by
            rcases hstep q q1 q2 with h | h
            · rw [h]; omega
            · have := I1 q q1 h q3; omega) (.inr ⟨p, hps, hp0, by omega, rfl⟩)
          refine ⟨τ', v', ?_, x2, x3⟩
          rw [if_pos (nI_lt hlt (by omega))]
          exact x1
        · obtain ⟨τ', v', x1, x2⟩ := ih _ hnext n τ v hnsb (by omega) hf hA hv hv1 (fun q q1 q2 q3 => by
            rcases hstep q q1 q2 with h | h
            · rw [h]; omega
            · exact I1 q q1 h q3) I2
          refine ⟨τ', v', ?_, x2⟩
          rw [if_neg (nI_nlt (by omega) (by omega))]
          exact x1
/-- the reference's table below s -/
def TAs (H c s : Nat) (e A : Nat → Nat) : Prop := A 0 = 0 ∧ (∀ j, j < s → A j ≤ 100000) ∧ ∀ j, 0 < j → j < s → (∀ q, sb q j → q ≠ 0 → ws e q.testBit H ≤ c → A j ≤ A (dN j q) + 1) ∧ (A j = 100000 ∨ ∃ q, sb q j ∧ q ≠ 0 ∧ ws e q.testBit H ≤ c ∧ A j = A (dN j q) + 1)
theorem g_L61 {H c all : Nat} {e : Nat → Nat} {τ0 : z_M} (hc : c ≤ 999) (hall : all < 256) (hsum : ∀ τ : z_M, τ 0 = τ0 0 → τ 1 = τ0 1 → ∀ q, q < 256 → f12_sumOf (nI q) τ = some (nI (ws e q.testBit H), τ) ∧ ws e q.testBit H ≤ 900) : ∀ (r s n : Nat) (τ : z_M) (A : Nat → Nat), s + r = all + 1 → 0 < s → r < n → (∀ x, x ≠ 32 → τ x = τ0 x) → (∀ j, j < s → τ 32 j = nI (A j)) → TAs H c s e A → ∃ τ' A', f12_greenhouses_L61 n (nI c) (nI all) (nI s) τ = f12_greenhouses_J151 (nI all) τ' ∧ (∀ x, x ≠ 32 → τ' x = τ0 x) ∧ (∀ j, j < all + 1 → τ' 32 j = nI (A' j)) ∧ TAs H c (all + 1) e A'
  | 0, s, n, τ, A, h1, h0, h2, hf, hA, hT => by
    obtain ⟨n, rfl⟩ : ∃ m, n = m + 1 := ⟨n - 1, by omega⟩
    refine ⟨τ, A, ?_, hf, fun j hj => hA j (by omega), by rw [← h1]; exact hT⟩
    unfold f12_greenhouses_L61
    rw [if_pos (nI_lt (by omega) (by omega))]
  | r + 1, s, n, τ, A, h1, h0, h2, hf, hA, hT => by
    obtain ⟨n, rfl⟩ : ∃ m, n = m + 1 := ⟨n - 1, by omega⟩
    have hs : s < 256 := by omega
    obtain ⟨τ1, v, x1, x2, x3, x4, x5, x6, x7⟩ := g_L78 (all := all) (A := A) (τ0 := τ0) hc h0 hs hsum (f12_greenhouses_L61 n) s z_fu (z_set τ 32 s (nI 100000)) 100000 (sb_refl s) (show s < 1000 by omega) (fun x hx => by rw [s_ne hx]; exact hf x hx) (fun j hj => by rw [s_kn (by omega)]; exact ⟨hA j hj, hT.2.1 j hj⟩) s_eq (Nat.le_refl _) (fun q q1 q2 => by
      exfalso
      have : q &&& s = q := by
        apply Nat.eq_of_testBit_eq
        intro i
        rw [Nat.testBit_and]
        cases h : q.testBit i
        · rfl
        · rw [q1 i h]; rfl
      have h2 : q &&& s ≤ s := Nat.and_le_right
      omega) (.inl rfl)
    let A' : Nat → Nat := fun j => if j = s then v else A j
    have As : A' s = v := if_pos rfl
    have Aj : ∀ j, j ≠ s → A' j = A j := fun j hj => if_neg hj
    have hd : ∀ {j q : Nat}, j ≤ s → sb q j → q ≠ 0 → A' (dN j q) = A (dN j q) := by
      intro j q hj hq hq0
      obtain ⟨i, hi⟩ := ne0_bit hq0
      have := dN_lt_self (show j < 256 by omega) (hq i hi) hi
      exact Aj _ (by omega)
    obtain ⟨τ', A'', y1, y2, y3, y4⟩ := g_L61 hc hall hsum r (s + 1) n τ1 A' (by omega) (by omega) (by omega) x2 (fun j hj => by
      by_cases e : j = s
      · rw [e, As]; exact x4
      · rw [Aj j e]; exact x3 j (by omega)) ⟨by rw [Aj 0 (by omega)]; exact hT.1, fun j hj => by
      by_cases e : j = s
      · rw [e, As]; exact x5
      · rw [Aj j e]; exact hT.2.1 j (by omega), fun j j0 hj => by
      by_cases e : j = s
      · subst e
        rw [As]
        refine ⟨fun q q1 q2 q3 => by rw [hd (Nat.le_refl _) q1 q2]; exact x6 q q1 q2 q3, x7.imp id (fun ⟨q, q1, q2, q3, q4⟩ => ⟨q, q1, q2, q3, by rw [hd (Nat.le_refl _) q1 q2]; exact q4⟩)⟩
      · rw [Aj j e]
        obtain ⟨z1, z2⟩ := hT.2.2 j j0 (by omega)
        exact ⟨fun q q1 q2 q3 => by rw [hd (by omega) q1 q2]; exact z1 q q1 q2 q3, z2.imp id (fun ⟨q, q1, q2, q3, q4⟩ => ⟨q, q1, q2, q3, by rw [hd (by omega) q1 q2]; exact q4⟩)⟩⟩
    refine ⟨τ', A'', ?_, y2, y3, y4⟩
    conv => lhs; unfold f12_greenhouses_L61
    rw [if_neg (nI_nlt (by omega) (by omega)), k_cin _ hs (by omega), q_ix (by omega), q_let]
    exact x1.trans y1
/-- the class: one set -/
theorem g_L7 {H c s : Nat} {e B : Nat → Nat} {σ : z_M} (hH : H ≤ 8) (hc : c ≤ 999) (hs : s < 256) (eh : σ 1 0 = nI H) (he : ∀ h, h < 8 → e h ≤ c ∧ σ 21 h = nI (e h)) (hB : ∀ h, h < H → s.testBit h = true → σ 114 (dN s (2 ^ h)) = nI (B (dN s (2 ^ h))) ∧ B (dN s (2 ^ h)) ≤ 20000) : ∀ (r k n v : Nat), k + r = H → r < n → v ≤ 256000 → ∃ v', f4_leastFilled_L7 n 1 (nI s) (nI c) (nI v) (nI k) σ = some (nI v', σ) ∧ v' ≤ v ∧ (∀ h, k ≤ h → h < H → s.testBit h = true → v' ≤ aft c (B (dN s (2 ^ h))) (e h)) ∧ (v' = v ∨ ∃ h, k ≤ h ∧ h < H ∧ s.testBit h = true ∧ v' = aft c (B (dN s (2 ^ h))) (e h))
  | 0, k, n, v, h1, h2, hv => by
    obtain ⟨n, rfl⟩ : ∃ m, n = m + 1 := ⟨n - 1, by omega⟩
    refine ⟨v, ?_, Nat.le_refl v, fun h a b => absurd b (by omega), .inl rfl⟩
    unfold f4_leastFilled_L7
    rw [eh, if_neg (nI_nlt (by omega) (by omega))]
  | r + 1, k, n, v, h1, h2, hv => by
    obtain ⟨n, rfl⟩ : ∃ m, n = m + 1 := ⟨n - 1, by omega⟩
    unfold f4_leastFilled_L7 f4_leastFilled_J92
    rw [eh, if_pos (nI_lt (by omega) (by omega)), k_bit s hs k (by omega), nI_1]
    by_cases hb : s.testBit k = true
    · obtain ⟨b1, b2⟩ := hB k (by omega) hb
      obtain ⟨x1, x2⟩ := he k (by omega)
      have x2 : σ (1 + 20) k = nI (e k) := x2
      have hdl := dN_lt hs (2 ^ k)
      rw [if_pos hb, i_10, k_shl k (by omega), k_dN hs, k_cin _ hdl (by omega), q_ix (show dN s (2 ^ k) < 2 ^ 31 by omega), b1, q_let, k_cin _ (by omega) (by omega), q_ix (show k < 2 ^ 31 by omega), x2, q_let, l_1000, s_rem (by omega) (by omega) (by omega), pk_div (by omega) (by omega) (by omega), nI_1, pk_mul, nI_add, nI_add, nI_add]
      have ha : aft c (B (dN s (2 ^ k))) (e k) ≤ 30000 := by unfold aft; split <;> omega
      have key : ∀ w, w = aft c (B (dN s (2 ^ k))) (e k) → ∃ v', f4_leastFilled_L7 n 1 (nI s) (nI c) (z_min (nI v) (nI w)) (nI (k + 1)) σ = some (nI v', σ) ∧ v' ≤ v ∧ (∀ h, k ≤ h → h < H → s.testBit h = true → v' ≤ aft c (B (dN s (2 ^ h))) (e h)) ∧ (v' = v ∨ ∃ h, k ≤ h ∧ h < H ∧ s.testBit h = true ∧ v' = aft c (B (dN s (2 ^ h))) (e h)) := by
        intro w hw
        rw [s_min (by omega) (by omega)]
        obtain ⟨v', y1, y2, y3, y4⟩ := g_L7 hH hc hs eh he hB r (k + 1) n (min v w) (by omega) (by omega) (by omega)
        refine ⟨v', y1, by omega, fun h a b d => ?_, ?_⟩
        · by_cases e : h = k
          · rw [e, ← hw]; omega
          · exact y3 h (by omega) b d
        · rcases y4 with y4 | ⟨h, a, b, d, q⟩
          · by_cases hvw : v ≤ w
            · left; omega
            · right; exact ⟨k, by omega, by omega, hb, by omega⟩
          · right; exact ⟨h, by omega, b, d, q⟩
      by_cases hf : B (dN s (2 ^ k)) % 1000 + e k ≤ c
      · rw [if_neg (nI_nlt (by omega) (by omega))]
        exact key _ (by unfold aft; rw [if_pos hf])
      · rw [if_pos (nI_lt (by omega) (by omega))]
        exact key _ (by unfold aft; rw [if_neg hf])
    · rw [if_neg hb, i_00]
      obtain ⟨v', y1, y2, y3, y4⟩ := g_L7 hH hc hs eh he hB r (k + 1) n v (by omega) (by omega) hv
      refine ⟨v', y1, y2, fun h a b d => ?_, y4.imp id (fun ⟨h, a, b⟩ => ⟨h, by omega, b⟩)⟩
      by_cases e : h = k
      · rw [e] at d; exact absurd d hb
      · exact y3 h (by omega) b d
def TBs (H P c s : Nat) (e B : Nat → Nat) : Prop := B 0 = c ∧ (∀ j, j < s → sb j P → B j ≤ 1000 * pc j + c) ∧ ∀ j, 0 < j → j < s → sb j P → (∀ h, h < H → j.testBit h = true → B j ≤ aft c (B (dN j (2 ^ h))) (e h)) ∧ ∃ h, h < H ∧ j.testBit h = true ∧ B j = aft c (B (dN j (2 ^ h))) (e h)
theorem g_L65 {H P c : Nat} {e : Nat → Nat} {σ0 : z_M} (hH : H ≤ 8) (hc : c ≤ 999) (hP : P < 256) (hPH : ∀ i, P.testBit i = true → i < H) (eh : σ0 1 0 = nI H) (he : ∀ h, h < 8 → e h ≤ c ∧ σ0 21 h = nI (e h)) : ∀ (r s n : Nat) (σ : z_M) (B : Nat → Nat), s + r = P + 1 → 0 < s → r < n → (∀ x, x ≠ 114 → σ x = σ0 x) → (∀ j, j < s → sb j P → σ 114 j = nI (B j)) → TBs H P c s e B → ∃ σ' B', f4_fewest_L65 n 1 (nI c) (nI P) (nI s) σ = f4_fewest_J101 (nI P) σ' ∧ (∀ x, x ≠ 114 → σ' x = σ0 x) ∧ (∀ j, j < P + 1 → sb j P → σ' 114 j = nI (B' j)) ∧ TBs H P c (P + 1) e B'
  | 0, s, n, σ, B, h1, h0, h2, hf, hB, hT => by
    obtain ⟨n, rfl⟩ : ∃ m, n = m + 1 := ⟨n - 1, by omega⟩
    refine ⟨σ, B, ?_, hf, fun j hj => hB j (by omega), by rw [← h1]; exact hT⟩
    unfold f4_fewest_L65
    rw [if_pos (nI_lt (by omega) (by omega))]
  | r + 1, s, n, σ, B, h1, h0, h2, hf, hB, hT => by
    obtain ⟨n, rfl⟩ : ∃ m, n = m + 1 := ⟨n - 1, by omega⟩
    have hs : s < 256 := by omega
    conv => enter [1, σ', 1, B', 1, 1]; unfold f4_fewest_L65
    rw [if_neg (nI_nlt (by omega) (by omega)), k_dN hs, nI_1]
    by_cases hsub : dN s P = 0
    · have hsb := (sb_iff hs).mp hsub
      have hd : ∀ h, s.testBit h = true → dN s (2 ^ h) < s ∧ sb (dN s (2 ^ h)) P := fun h hb => ⟨dN_lt_self hs hb (by rw [t_pow]; simp), sb_trans (sb_dN hs) hsb⟩
      have hpc : ∀ j, pc j ≤ 8 := fun j => pc_le j
      obtain ⟨v, x1, x2, x3, x4⟩ := g_L7 (s := s) (B := B) (σ := σ) hH hc hs (by rw [hf 1 (by omega)]; exact eh) (fun h hh => by rw [hf 21 (by omega)]; exact he h hh) (fun h hh hb => by
        obtain ⟨d1, d2⟩ := hd h hb
        have := hT.2.1 _ d1 d2
        have := hpc (dN s (2 ^ h))
        exact ⟨hB _ d1 d2, by omega⟩) H 0 z_fu 256000 (by omega) (show H < 1000 by omega) (Nat.le_refl _)
      have x1 : f4_leastFilled 1 (nI s) (nI c) σ = some (nI v, σ) := x1
      have hval : ∀ h, s.testBit h = true → aft c (B (dN s (2 ^ h))) (e h) ≤ 1000 * pc s + c := by
        intro h hb
        obtain ⟨d1, d2⟩ := hd h hb
        have h8 := t_bit8 hs hb
        rw [pc_dN hs h8 hb]
        exact aft_le hc (he h h8).1 (hT.2.1 _ d1 d2)
      obtain ⟨i, hi⟩ := ne0_bit (show s ≠ 0 by omega)
      have hiH := hPH i (hsb i hi)
      have hv1 : v ≤ 1000 * pc s + c := Nat.le_trans (x3 i (by omega) hiH hi) (hval i hi)
      have hps := hpc s
      let B' : Nat → Nat := fun j => if j = s then v else B j
      have Bs : B' s = v := if_pos rfl
      have Bj : ∀ j, j ≠ s → B' j = B j := fun j hj => if_neg hj
      have hd' : ∀ {j h : Nat}, j ≤ s → j.testBit h = true → B' (dN j (2 ^ h)) = B (dN j (2 ^ h)) := by
        intro j h hj hb
        have := dN_lt_self (p := 2 ^ h) (show j < 256 by omega) hb (by rw [t_pow]; simp)
        exact Bj _ (by omega)
      obtain ⟨σ', B'', y1, y2, y3, y4⟩ := g_L65 hH hc hP hPH eh he r (s + 1) n (z_set σ 114 s (nI v)) B' (by omega) (by omega) (by omega) (fun x hx => by rw [s_ne hx]; exact hf x hx) (fun j hj hjs => by
        by_cases e : j = s
        · rw [e, s_eq, Bs]
        · rw [s_kn e, Bj j e]; exact hB j (by omega) hjs) ⟨by rw [Bj 0 (by omega)]; exact hT.1, fun j hj hjs => by
        by_cases e : j = s
        · rw [e, Bs]; exact hv1
        · rw [Bj j e]; exact hT.2.1 j (by omega) hjs, fun j j0 hj hjs => by
        by_cases e : j = s
        · subst e
          rw [Bs]
          refine ⟨fun h hh hb => by rw [hd' (Nat.le_refl _) hb]; exact x3 h (by omega) hh hb, ?_⟩
          rcases x4 with q | ⟨h, -, hh, hb, q⟩
          · omega
          · exact ⟨h, hh, hb, by rw [hd' (Nat.le_refl _) hb]; exact q⟩
        · rw [Bj j e]
          obtain ⟨z1, h, z2, z3, z4⟩ := hT.2.2 j j0 (by omega) hjs
          exact ⟨fun h hh hb => by rw [hd' (by omega) hb]; exact z1 h hh hb, h, z2, z3, by rw [hd' (by omega) z3]; exact z4⟩⟩
      refine ⟨σ', B'', ?_, y2, y3, y4⟩
      rw [if_pos (k_z hsub), x1, q_bnd, k_cin _ hs (by omega), q_ix (by omega), q_let]
      exact y1
    · rw [if_neg (k_nz hsub (Nat.lt_trans (dN_lt hs P) (by omega)))]
      have hns : ¬ sb s P := fun q => hsub ((sb_iff hs).mpr q)
      refine g_L65 hH hc hP hPH eh he r (s + 1) n σ B (by omega) (by omega) (by omega) hf (fun j hj hjs => ?_) ⟨hT.1, fun j hj hjs => ?_, fun j j0 hj hjs => ?_⟩
      · by_cases e : j = s
        · rw [e] at hjs; exact absurd hjs hns
        · exact hB j (by omega) hjs
      · by_cases e : j = s
        · rw [e] at hjs; exact absurd hjs hns
        · exact hT.2.1 j (by omega) hjs
      · by_cases e : j = s
        · rw [e] at hjs; exact absurd hjs hns
        · exact hT.2.2 j j0 (by omega) hjs
/-- which houses have pots; is one too high? -/
theorem g_L5 {H W c : Nat} {σ τ : z_M} {e : Nat → Nat} (hB : SB 18 H W σ τ) (hH : H ≤ 8) (hc : c ≤ 999) (eh : σ 1 0 = nI H) (ehm : τ 0 6 = nI H) (he : ∀ h, h < 8 → e h ≤ 99 ∧ σ 21 h = nI (e h)) (q : Nat → Bool) (hq : ∀ h, q h = !decide (σ 20 h = -1)) : ∀ (r k f g : Nat), k + r = H → r < f → r < g → f12_greenhouses_L23 g (nI c) (nI (bN q k)) (nI k) τ = f12_greenhouses_J52 (nI c) (nI (bN q H)) τ ∧ ((f4_fewest_L5 f 1 (nI c) (nI (bN q k)) (nI k) σ = some (-1, σ) ∧ ∃ h, h < H ∧ c < e h) ∨ (f4_fewest_L5 f 1 (nI c) (nI (bN q k)) (nI k) σ = f4_fewest_J55 1 (nI c) (nI (bN q H)) σ ∧ ∀ h, k ≤ h → h < H → e h ≤ c))
  | 0, k, f, g, h1, h2, h3 => by
    obtain ⟨f, rfl⟩ : ∃ m, f = m + 1 := ⟨f - 1, by omega⟩
    obtain ⟨g, rfl⟩ : ∃ m, g = m + 1 := ⟨g - 1, by omega⟩
    obtain rfl : k = H := by omega
    unfold f4_fewest_L5 f12_greenhouses_L23
    rw [eh, ehm, if_neg (nI_nlt (by omega) (by omega)), if_neg (nI_nlt (by omega) (by omega))]
    exact ⟨rfl, .inr ⟨rfl, fun h a b => absurd b (by omega)⟩⟩
  | r + 1, k, f, g, h1, h2, h3 => by
    obtain ⟨f, rfl⟩ : ∃ m, f = m + 1 := ⟨f - 1, by omega⟩
    obtain ⟨g, rfl⟩ : ∃ m, g = m + 1 := ⟨g - 1, by omega⟩
    have hv := (hB.2.2.2.2.1 k (by omega)).1
    obtain ⟨i1, i2⟩ := g_L5 hB hH hc eh ehm he q hq r (k + 1) f g (by omega) (by omega) (by omega)
    obtain ⟨e1, e2⟩ := he k (by omega)
    have e2 : σ (1 + 20) k = nI (e k) := e2
    rw [bN_s (k := k)] at i1 i2
    unfold f4_fewest_L5 f12_greenhouses_L23
    rw [eh, ehm, if_pos (nI_lt (by omega) (by omega)), if_pos (nI_lt (by omega) (by omega)), k_cin _ (by omega) (by omega), q_ix (by omega), e2, e0_hasPot (by omega), q_bnd, e12_potOf' (by omega) τ hv, q_bnd, nI_1, k_shl k (by omega), k_or]
    have hqk := hq k
    by_cases hp : σ 20 k = -1
    · have hp1 : σ (1 + 17 + 2) k = -1 := hp
      have hp2 : σ (18 + 2) k = -1 := hp
      rw [decide_eq_true hp] at hqk
      rw [if_neg (by rw [hqk]; decide)] at i1 i2
      rw [if_pos hp1, if_pos hp2, i_00]
      refine ⟨i1, ?_⟩
      by_cases hc2 : c < e k
      · left; rw [if_pos (nI_lt hc2 (by omega))]; exact ⟨rfl, k, by omega, hc2⟩
      · rw [if_neg (nI_nlt (by omega) (by omega))]
        refine i2.imp id (fun ⟨a, b⟩ => ⟨a, fun h x y => ?_⟩)
        by_cases z : h = k
        · rw [z]; omega
        · exact b h (by omega) y
    · have hp1 : ¬ σ (1 + 17 + 2) k = -1 := hp
      have hp2 : ¬ σ (18 + 2) k = -1 := hp
      rw [decide_eq_false hp] at hqk
      rw [if_pos (by rw [hqk]; rfl)] at i1 i2
      rw [if_neg hp1, if_neg hp2, i_10]
      refine ⟨i1, ?_⟩
      by_cases hc2 : c < e k
      · left; rw [if_pos (nI_lt hc2 (by omega))]; exact ⟨rfl, k, by omega, hc2⟩
      · rw [if_neg (nI_nlt (by omega) (by omega))]
        refine i2.imp id (fun ⟨a, b⟩ => ⟨a, fun h x y => ?_⟩)
        by_cases z : h = k
        · rw [z]; omega
        · exact b h (by omega) y
theorem p_greenhouses0 : p_greenhouses Rel0 := by
  intro p1 σ τ hR
  replace hR := Rel0_told hR
  unfold f12_greenhouses f11_greenhouses
  rw [q_let]
  generalize z_set τ 0 0 0 = τ at hR ⊢
  have hR0 := hR
  obtain ⟨⟨H, hN, hU⟩, hI, hT, hF, hC⟩ := hR
  obtain ⟨g1, g2, g3, g4, g5, g6, g7, g8, g9, g10⟩ := hN
  have hH := g1.1
  rcases g_in p1 1 999 1 999 rfl rfl (by omega) (by omega) τ with ⟨n1 | ⟨n1, n2⟩, e⟩ | ⟨c, hc1, hc, rfl, n1, n2, e⟩
  · rw [if_pos n1, e]; exact ⟨-1, σ, τ, rfl, rfl, hR0⟩
  · rw [if_neg n1, if_pos n2, e]; exact ⟨-1, σ, τ, rfl, rfl, hR0⟩
  rw [if_neg n1, if_neg n2, e, q_bnd, i_10]
  let e : Nat → Nat := fun h => z_ix (σ 21 h)
  have he : ∀ h, h < 8 → e h ≤ 99 ∧ σ 21 h = nI (e h) ∧ (σ 20 h = -1 → e h = 0) ∧ (¬ σ 20 h = -1 → 1 ≤ e h) := by
    intro h hh
    show z_ix (σ 21 h) ≤ 99 ∧ σ 21 h = nI (z_ix (σ 21 h)) ∧ (σ 20 h = -1 → z_ix (σ 21 h) = 0) ∧ (¬ σ 20 h = -1 → 1 ≤ z_ix (σ 21 h))
    rcases (g10.2.2.2.2.1 h hh).2 with q | ⟨-, ⟨t, ht, et⟩, ⟨n, q1, q2, q3⟩, -⟩
    · have q2 : σ 21 h = 0 := q.2.1
      rw [q2]
      exact ⟨by decide, rfl, fun _ => rfl, fun z => absurd q.1 z⟩
    · have q3 : σ 21 h = nI n := q3
      have et : σ 20 h = nI t := et
      rw [q3, q_ix (by omega)]
      exact ⟨q2, rfl, fun z => absurd z (by rw [et]; exact q_neg (by omega)), fun _ => q1⟩
  let q : Nat → Bool := fun h => !decide (σ 20 h = -1)
  let P := bN q H
  have hP : P < 256 := Nat.lt_of_lt_of_le (bN_lt q H) (Nat.pow_le_pow_right (n := 2) (by omega) hH)
  have hPb : ∀ i, P.testBit i = (decide (i < H) && q i) := fun i => bN_bit q i H
  have hPH : ∀ i, P.testBit i = true → i < H ∧ ¬ σ 20 i = -1 := fun i hi => by
    rw [hPb] at hi
    have : i < H ∧ q i = true := by simpa using hi
    exact ⟨this.1, by have h2 : (!decide (σ 20 i = -1)) = true := this.2; simpa using h2⟩
  obtain ⟨m1, m2⟩ := g_L5 (c := c) (e := e) g10 hH hc g1.2.1 g1.2.2.1 (fun h hh => ⟨(he h hh).1, (he h hh).2.1⟩) q (fun _ => rfl) H 0 z_fu z_fu (by omega) (show H < 1000 by omega) (show H < 1000 by omega)
  have m1 : f12_greenhouses_L23 z_fu (nI c) 0 0 τ = f12_greenhouses_J52 (nI c) (nI P) τ := m1
  have hhi : ∀ τ' : z_M, τ' 1 = τ 1 → ∀ h, h < 8 → f12_highOf (nI h) τ' = some (nI (e h), τ') := fun τ' q1 h hh => by
    have := e12_highOf (τ := τ') (by rw [q1]; exact g10) hh
    rw [this]
    show some (σ 21 h, τ') = _
    rw [(he h hh).2.1]
  have hsum : ∀ τ' : z_M, τ' 0 = τ 0 → τ' 1 = τ 1 → ∀ s, s < 256 → f12_sumOf (nI s) τ' = some (nI (ws e s.testBit H), τ') ∧ ws e s.testBit H ≤ 900 := fun τ' q0 q1 s hs => by
    refine ⟨e12_sumOf hH (by rw [q0]; exact g1.2.2.1) (fun h hh => ⟨(he h hh).1, hhi τ' q1 h hh⟩) hs H 0 z_fu (by omega) (show H < 1000 by omega), ?_⟩
    have := ws_le (w := e) (p := s.testBit) (c := 99) (k := H) (fun i hi => (he i (by omega)).1)
    omega
  obtain ⟨τ', A, t1, t2, t3, t4⟩ := g_L61 (H := H) (c := c) (all := P) (e := e) (τ0 := τ) hc hP hsum P 1 z_fu (z_set τ 32 0 0) (fun _ => 0) (by omega) (by omega) (show P < 1000 by omega) (fun x hx => s_ne hx) (fun j hj => by
    have : j = 0 := by omega
    rw [this, s_eq]; rfl) ⟨rfl, fun j _ => Nat.zero_le _, fun j j0 hj => absurd hj (by omega)⟩
  have hA : TA H P c e A := by
    have lt : ∀ s, sb s P → s < P + 1 := fun s hs => by
      have : s &&& P = s := by
        apply Nat.eq_of_testBit_eq
        intro i
        rw [Nat.testBit_and]
        cases h : s.testBit i
        · rfl
        · rw [hs i h]; rfl
      have h2 : s &&& P ≤ P := Nat.and_le_right
      omega
    refine ⟨t4.1, fun s hs => t4.2.1 s (lt s hs), fun s p hs hp hp0 hw => ?_, fun s hs hs0 => (t4.2.2 s (by omega) (lt s hs)).2⟩
    obtain ⟨i, hi⟩ := ne0_bit hp0
    have hs0 : s ≠ 0 := by
      intro z
      have := hp i hi
      rw [z, Nat.zero_testBit] at this; exact absurd this (by decide)
    exact (t4.2.2 s (by omega) (lt s hs)).1 p hp hp0 hw
  have hrt : Rel0 σ τ' := Rel0_frame2 hR0 (fun _ _ => rfl) rfl rfl (fun x hx => t2 x (by unfold K_m at hx; omega)) (fun k _ => by rw [t2 0 (by omega)])
  have hm : f12_greenhouses_L23 z_fu (nI c) 0 0 τ = (if nI (A P) < 100000 then some (nI (A P), τ') else some (-1, τ')) := by
    rw [m1]
    unfold f12_greenhouses_J52
    rw [q_chk _ (by decide), q_let]
    have t1 : f12_greenhouses_L61 z_fu (nI c) (nI P) 1 (z_set τ 32 (z_ix 0) 0) = f12_greenhouses_J151 (nI P) τ' := t1
    rw [t1]
    unfold f12_greenhouses_J151
    rw [k_cin _ hP (by omega), q_ix (by omega), t3 P (by omega), k_cin _ hP (by omega)]
  rw [hm]
  unfold f4_fewest
  rcases m2 with ⟨m2, h, hh, hbig⟩ | ⟨m2, hsm⟩
  · have m2 : f4_fewest_L5 z_fu 1 (nI c) 0 0 σ = some (-1, σ) := m2
    have hpot : ¬ σ 20 h = -1 := fun z => by
      have := (he h (by omega)).2.2.1 z
      omega
    have hbit : P.testBit h = true := by
      rw [hPb]
      show (decide (h < H) && !decide (σ 20 h = -1)) = true
      simp [hh, hpot]
    have hAP := pq_none hP hh hbig hA P (sb_refl P) hbit
    rw [m2, q_bnd, hAP, if_neg (by decide)]
    exact ⟨-1, σ, τ', rfl, rfl, hrt⟩
  · have m2 : f4_fewest_L5 z_fu 1 (nI c) 0 0 σ = f4_fewest_J55 1 (nI c) (nI P) σ := m2
    have hec : ∀ h, h < 8 → e h ≤ c := fun h hh => by
      by_cases hH2 : h < H
      · exact hsm h (by omega) hH2
      · have : σ 20 h = -1 := by
          rcases (g10.2.2.2.2.1 h hh).2 with z | ⟨z, -⟩
          · exact z.1
          · omega
        have := (he h hh).2.2.1 this
        omega
    obtain ⟨σ', B, u1, u2, u3, u4⟩ := g_L65 (H := H) (P := P) (c := c) (e := e) (σ0 := σ) hH hc hP (fun i hi => (hPH i hi).1) g1.2.1 (fun h hh => ⟨hec h hh, (he h hh).2.1⟩) P 1 z_fu (z_set σ 114 0 (nI c)) (fun _ => c) (by omega) (by omega) (show P < 1000 by omega) (fun x hx => s_ne hx) (fun j hj _ => by
      have : j = 0 := by omega
      rw [this, s_eq]) ⟨rfl, fun j _ _ => by show c ≤ 1000 * pc j + c; omega, fun j j0 hj => absurd hj (by omega)⟩
    have lt : ∀ s, sb s P → s < P + 1 := fun s hs => by
      have : s &&& P = s := by
        apply Nat.eq_of_testBit_eq
        intro i
        rw [Nat.testBit_and]
        cases h : s.testBit i
        · rfl
        · rw [hs i h]; rfl
      have h2 : s &&& P ≤ P := Nat.and_le_right
      omega
    have hB : TB H P c e B := ⟨u4.1, fun s h hs hh hb => (u4.2.2 s (by
      rcases Nat.eq_zero_or_pos s with z | z
      · rw [z, Nat.zero_testBit] at hb; exact absurd hb (by decide)
      · exact z) (lt s hs) hs).1 h hh hb, fun s hs hs0 => (u4.2.2 s (by omega) (lt s hs) hs).2⟩
    have hBP := u4.2.1 P (by omega) (sb_refl P)
    have hp8 := pc_le P
    obtain ⟨w1, w2⟩ := pq_same hP (fun i hi => (hPH i hi).1) hH hc (fun i hi => ⟨(he i (by have := (hPH i hi).1; omega)).2.2.2 (hPH i hi).2, hec i (by have := (hPH i hi).1; omega)⟩) hA hB (by omega)
    have hcl : f4_fewest_J55 1 (nI c) (nI P) σ = some (nI (B P / 1000), σ') := by
      unfold f4_fewest_J55
      rw [q_chk _ (by decide), q_let]
      have u1 : f4_fewest_L65 z_fu 1 (nI c) (nI P) 1 (z_set σ 114 (z_ix 0) (nI c)) = f4_fewest_J101 (nI P) σ' := u1
      rw [u1]
      unfold f4_fewest_J101
      rw [k_cin _ hP (by omega), q_ix (by omega), u3 P (by omega) (sb_refl P), l_1000, pk_div (by omega) (by omega) (by omega)]
    have hlt : nI (A P) < 100000 := nI_lt (b := 100000) w2 (by omega)
    rw [m2, hcl, q_bnd, if_pos hlt, w1]
    exact ⟨_, σ', τ', rfl, rfl, Rel0_frame2 hrt (fun x hx => u2 x (by omega)) (by rw [u2 50 (by omega)]) (by rw [u2 51 (by omega)]) (fun _ _ => rfl) (fun _ _ => rfl)⟩
