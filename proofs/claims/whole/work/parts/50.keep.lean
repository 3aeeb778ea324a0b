/-! straight code over the memory; what can be undone: keep, undo -/
theorem s_ne {σ : z_M} {c k : Nat} {v : Int32} {c' : Nat} (h : c' ≠ c) : z_set σ c k v c' = σ c' := if_neg h
theorem s_eq {σ : z_M} {c k : Nat} {v : Int32} : z_set σ c k v c k = v := by rw [q_set, if_pos rfl, q_upd, if_pos rfl]
theorem s_kn {σ : z_M} {c k : Nat} {v : Int32} {k' : Nat} (h : k' ≠ k) : z_set σ c k v c k' = σ c k' := by rw [q_set, if_pos rfl, q_upd, if_neg h]
theorem s_cn {σ : z_M} {c0 c1 c' : Nat} {sp dp n : Int32} (h : c' ≠ c1) : z_cpy σ c0 sp c1 dp n c' = σ c' := if_neg h
theorem s_ci {σ : z_M} {c0 c1 n k : Nat} (h : k < n) (hn : n < 2 ^ 31) : z_cpy σ c0 0 c1 0 (nI n) c1 k = σ c0 k := by
  unfold z_cpy z_row
  rw [if_pos rfl, nI_clamp hn, pk_cpy_in (by show 0 ≤ k; omega) (by show k < 0 + n; omega)]
  congr 1
  show 0 + (k - 0) = k
  omega
theorem s_co {σ : z_M} {c0 c1 n k : Nat} (h : n ≤ k) (hn : n < 2 ^ 31) : z_cpy σ c0 0 c1 0 (nI n) c1 k = σ c1 k := by
  unfold z_cpy z_row
  rw [if_pos rfl, nI_clamp hn, pk_cpy_out (by right; show 0 + n ≤ k; omega)]
theorem s_min {a b : Nat} (ha : a < 2 ^ 31) (hb : b < 2 ^ 31) : z_min (nI a) (nI b) = nI (min a b) := by
  unfold z_min
  by_cases h : b < a
  · rw [if_pos (nI_lt h ha), Nat.min_eq_right (by omega)]
  · rw [if_neg (nI_nlt (by omega) hb), Nat.min_eq_left (by omega)]
theorem s_max {a b : Nat} (ha : a < 2 ^ 31) (hb : b < 2 ^ 31) : z_max (nI a) (nI b) = nI (max a b) := by
  unfold z_max
  by_cases h : a < b
  · rw [if_pos (nI_lt h hb), Nat.max_eq_right (by omega)]
  · rw [if_neg (nI_nlt (by omega) ha), Nat.max_eq_left (by omega)]
/-- k slots of a row from a on, told by g -/
def z_fl (σ : z_M) (c a k : Nat) (g : Nat → Int32) : z_M := z_row σ c (fun j => if a ≤ j ∧ j < a + k then g (j - a) else σ c j)
theorem fl_0 (σ : z_M) (c a : Nat) (g : Nat → Int32) : z_fl σ c a 0 g = σ := by
  funext c' j
  unfold z_fl z_row
  by_cases h : c' = c
  · subst h; rw [if_pos rfl, if_neg (by omega)]
  · rw [if_neg h]
theorem fl_ne {σ : z_M} {c a k c' : Nat} {g : Nat → Int32} (h : c' ≠ c) : z_fl σ c a k g c' = σ c' := if_neg h
theorem fl_out {σ : z_M} {c a k j : Nat} {g : Nat → Int32} (h : j < a ∨ a + k ≤ j) : z_fl σ c a k g c j = σ c j := by
  unfold z_fl z_row
  rw [if_pos rfl, if_neg (by omega)]
theorem fl_in {σ : z_M} {c a k j : Nat} {g : Nat → Int32} (h : a ≤ j) (h2 : j < a + k) : z_fl σ c a k g c j = g (j - a) := by
  unfold z_fl z_row
  rw [if_pos rfl, if_pos ⟨h, h2⟩]
theorem fl_s {σ : z_M} {c a k j : Nat} {g : Nat → Int32} {v : Int32} (hj : j = a + k) (h : v = g k) : z_set (z_fl σ c a k g) c j v = z_fl σ c a (k + 1) g := by
  subst hj h
  funext c' i
  by_cases hc : c' = c
  · subst hc
    by_cases hi : i = a + k
    · subst hi; rw [s_eq, fl_in (by omega) (by omega), Nat.add_sub_cancel_left]
    · rw [s_kn hi]
      by_cases h2 : a ≤ i ∧ i < a + k
      · rw [fl_in h2.1 h2.2, fl_in h2.1 (by omega)]
      · rw [fl_out (by omega), fl_out (by omega)]
  · rw [s_ne hc, fl_ne hc, fl_ne hc]
/-- beds that agree where the relation looks -/
theorem G_be_cong {H W : Nat} {ob d th he te wa m ob' d' th' he' te' wa' m' : Nat → Int32} (h : G_be H W ob d th he te wa m) (e1 : ∀ k, 5 ≤ k → k ≤ 8 → ob' k = ob k) (e2 : ∀ k, k < 64 → d' k = d k) (e3 : ∀ k, k < 8 → th' k = th k ∧ he' k = he k ∧ te' k = te k ∧ wa' k = wa k) (e4 : ∀ k, k < 100 → m' k = m k) : G_be H W ob' d' th' he' te' wa' m' := by
  obtain ⟨⟨b1, b2, b3, b4⟩, c1, c2, c3, c4, c5⟩ := h
  refine ⟨⟨?_, ?_, ?_, ?_⟩, ?_, ?_, fun i hi => ?_, fun h hh => ?_, fun h t h1 h2 h3 => ?_⟩
  · rw [e4 0 (by omega), e1 6 (by omega) (by omega)]; exact b1
  · rw [e4 1 (by omega), e1 5 (by omega) (by omega)]; exact b2
  · rw [e4 2 (by omega), e1 8 (by omega) (by omega)]; exact b3
  · rw [e4 3 (by omega), e1 7 (by omega) (by omega)]; exact b4
  · rw [e1 6 (by omega) (by omega)]; exact c1
  · rw [e1 8 (by omega) (by omega)]; exact c2
  · rw [e4 (4 + i) (by omega), e2 i hi]; exact c3 i hi
  · rw [e4 (68 + h) (by omega), e4 (76 + h) (by omega), e4 (84 + h) (by omega), e4 (92 + h) (by omega), (e3 h hh).1, (e3 h hh).2.1, (e3 h hh).2.2.1, (e3 h hh).2.2.2]; exact c4 h hh
  · rw [e2 _ (by omega)]; exact c5 h t h1 h2 h3
/-- copied beds -/
def B_cp (b c : Nat) (σ σ' : z_M) : Prop := (∀ k, 5 ≤ k → k ≤ 8 → σ' b k = σ c k) ∧ (∀ k, k < 64 → σ' (b + 1) k = σ (c + 1) k) ∧ ∀ k, k < 8 → σ' (b + 2) k = σ (c + 2) k ∧ σ' (b + 3) k = σ (c + 3) k ∧ σ' (b + 4) k = σ (c + 4) k ∧ σ' (b + 5) k = σ (c + 5) k
theorem e0_copy {b c : Nat} (hbc : b + 5 < c ∨ c + 5 < b) (σ : z_M) : ∃ σ', f0_copyFrom b c σ = some ((), σ') ∧ (∀ x, x < b ∨ b + 5 < x → σ' x = σ x) ∧ B_cp b c σ σ' := by
  refine ⟨_, rfl, fun x hx => ?_, fun k h1 h2 => ?_, fun k h1 => ?_, fun k h1 => ⟨?_, ?_, ?_, ?_⟩⟩
  · simp (disch := omega) only [s_ne, s_cn]
  · rcases (show k = 5 ∨ k = 6 ∨ k = 7 ∨ k = 8 by omega) with rfl | rfl | rfl | rfl <;> simp (disch := omega) only [s_ne, s_cn, s_eq, s_kn]
  · simp (disch := omega) only [s_ne, s_cn, s_ci, l_64, l_8]
  · simp (disch := omega) only [s_ne, s_cn, s_ci, l_64, l_8]
  · simp (disch := omega) only [s_ne, s_cn, s_ci, l_64, l_8]
  · simp (disch := omega) only [s_ne, s_cn, s_ci, l_64, l_8]
  · simp (disch := omega) only [s_ne, s_cn, s_ci, l_64, l_8]
theorem e10_keep {nx uc : Nat} {σ : z_M} (h1 : σ 58 1 = nI nx) (h2 : σ 58 2 = nI uc) (hn : nx < 6) (hu : uc ≤ 6) : ∃ σ', f10_keep 18 σ = some ((), σ') ∧ (∀ x, x ≠ 58 → x < 60 + 6 * nx ∨ 60 + 6 * nx + 5 < x → σ' x = σ x) ∧ σ' 58 1 = nI ((nx + 1) % 6) ∧ σ' 58 2 = nI (min 6 (uc + 1)) ∧ B_cp (60 + 6 * nx) 18 σ σ' := by
  obtain ⟨σ1, e1, e2, e3⟩ := e0_copy (b := 60 + 6 * nx) (c := 18) (by omega) σ
  have k1 : σ1 58 1 = nI nx := by rw [e2 58 (by omega)]; exact h1
  have k2 : σ1 58 2 = nI uc := by rw [e2 58 (by omega)]; exact h2
  have hf : f10_keep 18 σ = some ((), z_set (z_set σ1 58 1 (nI ((nx + 1) % 6))) 58 2 (nI (min 6 (uc + 1)))) := by
    unfold f10_keep f10_keep_J35
    rw [h1, k_cin _ hn (by omega), q_ix (by omega), e1, q_bnd, k1, nI_1]
    simp only [q_let]
    by_cases h6 : nx + 1 < 6
    · rw [l_6, if_pos (nI_lt h6 (by omega)), s_kn (by omega), k2, nI_1, s_min (by omega) (by omega), Nat.mod_eq_of_lt h6]
    · rw [l_6, if_neg (nI_nlt (by omega) (by omega)), s_kn (by omega), k2, nI_1, s_min (by omega) (by omega), show (nx + 1) % 6 = 0 by omega]
      rfl
  refine ⟨_, hf, fun x a b => ?_, ?_, s_eq, ?_⟩
  · rw [s_ne a, s_ne a]; exact e2 x b
  · rw [s_kn (by omega), s_eq]
  · obtain ⟨a1, a2, a3⟩ := e3
    refine ⟨fun k x y => ?_, fun k x => ?_, fun k x => ⟨?_, ?_, ?_, ?_⟩⟩
    · rw [s_ne (by omega), s_ne (by omega)]; exact a1 k x y
    · rw [s_ne (by omega), s_ne (by omega)]; exact a2 k x
    · rw [s_ne (by omega), s_ne (by omega)]; exact (a3 k x).1
    · rw [s_ne (by omega), s_ne (by omega)]; exact (a3 k x).2.1
    · rw [s_ne (by omega), s_ne (by omega)]; exact (a3 k x).2.2.1
    · rw [s_ne (by omega), s_ne (by omega)]; exact (a3 k x).2.2.2
theorem e12_keepL55 {u : Nat} {τ : z_M} (h3 : τ 0 3 = nI u) (hu : u ≤ 5) : ∀ (r k n : Nat), k + r = 100 → r < n → f12_keepsAhead_L55 n (nI k) (z_fl τ 2 (100 * u) k (τ 1)) = some ((), z_set (z_fl τ 2 (100 * u) 100 (τ 1)) 0 3 (nI (u + 1)))
  | 0, k, n, hk, hn => by
    obtain ⟨m, rfl⟩ : ∃ m, n = m + 1 := ⟨n - 1, by omega⟩
    obtain rfl : k = 100 := by omega
    unfold f12_keepsAhead_L55 f12_keepsAhead_J87
    rw [l_100, if_neg (nI_nlt (by omega) (by omega)), q_let, fl_ne (by omega), h3, nI_1]
  | r + 1, k, n, hk, hn => by
    obtain ⟨m, rfl⟩ : ∃ m, n = m + 1 := ⟨n - 1, by omega⟩
    unfold f12_keepsAhead_L55
    rw [l_100, if_pos (nI_lt (by omega) (by omega)), fl_ne (show 0 ≠ 2 by omega), fl_ne (show 1 ≠ 2 by omega), h3, pk_mul, nI_add, k_cin _ (by omega) (by omega), k_cin _ (by omega) (by omega), q_ix (by omega), q_ix (by omega), q_let, fl_s rfl rfl, nI_1]
    exact e12_keepL55 h3 hu r (k + 1) m (by omega) (by omega)
theorem e12_keepL21 {τ : z_M} (h3 : τ 0 3 = nI 5) : ∀ (r k n : Nat), k + r = 500 → r < n → f12_keepsAhead_L21 n (nI k) (z_fl τ 2 0 k (fun j => τ 2 (j + 100))) = f12_keepsAhead_J53 (z_fl τ 2 0 500 (fun j => τ 2 (j + 100)))
  | 0, k, n, hk, hn => by
    obtain ⟨m, rfl⟩ : ∃ m, n = m + 1 := ⟨n - 1, by omega⟩
    obtain rfl : k = 500 := by omega
    unfold f12_keepsAhead_L21
    rw [l_100, fl_ne (show 0 ≠ 2 by omega), h3, pk_mul, if_neg (nI_nlt (by omega) (by omega))]
  | r + 1, k, n, hk, hn => by
    obtain ⟨m, rfl⟩ : ∃ m, n = m + 1 := ⟨n - 1, by omega⟩
    unfold f12_keepsAhead_L21
    rw [l_100, fl_ne (show 0 ≠ 2 by omega), h3, pk_mul, if_pos (nI_lt (by omega) (by omega)), nI_add, k_cin _ (by omega) (by omega), k_cin _ (by omega) (by omega), q_ix (by omega), q_ix (by omega), q_let, fl_out (by omega), fl_s (by omega) rfl, nI_1]
    exact e12_keepL21 h3 r (k + 1) m (by omega) (by omega)
theorem e12_keep {uc : Nat} {τ : z_M} (h3 : τ 0 3 = nI uc) (hu : uc ≤ 6) : ∃ τ', f12_keepsAhead τ = some ((), τ') ∧ (∀ x, x ≠ 0 → x ≠ 2 → τ' x = τ x) ∧ (∀ k, k ≠ 3 → τ' 0 k = τ 0 k) ∧ τ' 0 3 = nI (min 6 (uc + 1)) ∧ (uc < 6 → (∀ j, j < 100 * uc → τ' 2 j = τ 2 j) ∧ ∀ k, k < 100 → τ' 2 (100 * uc + k) = τ 1 k) ∧ (uc = 6 → (∀ j, j < 500 → τ' 2 j = τ 2 (j + 100)) ∧ ∀ k, k < 100 → τ' 2 (500 + k) = τ 1 k) := by
  by_cases h6 : uc = 6
  · subst h6
    refine ⟨z_set (z_fl (z_fl (z_set τ 0 3 (nI 5)) 2 0 500 (fun j => τ 2 (j + 100))) 2 500 100 (τ 1)) 0 3 (nI 6), ?_, fun x a b => ?_, fun k a => ?_, ?_, fun q => absurd q (by omega), fun _ => ⟨fun j hj => ?_, fun k hk => ?_⟩⟩
    · unfold f12_keepsAhead
      rw [h3, l_6, if_pos rfl, l_1, pk_sub (by omega), q_let]
      have a := e12_keepL21 (τ := z_set τ 0 3 (nI 5)) s_eq 500 0 z_fu (by omega) (by decide)
      rw [fl_0] at a
      rw [l_0, a]
      have b := e12_keepL55 (u := 5) (τ := z_fl (z_set τ 0 3 (nI 5)) 2 0 500 (fun j => τ 2 (j + 100))) (by rw [fl_ne (by omega)]; exact s_eq) (by omega) 100 0 z_fu (by omega) (by decide)
      rw [fl_0] at b
      exact b
    · rw [s_ne a, fl_ne b, fl_ne b, s_ne a]
    · rw [s_kn a, fl_ne (by omega), fl_ne (by omega), s_kn a]
    · exact s_eq
    · rw [s_ne (by omega), fl_out (by omega), fl_in (by omega) (by omega)]; rfl
    · rw [s_ne (by omega), fl_in (by omega) (by omega), Nat.add_sub_cancel_left]
  · refine ⟨z_set (z_fl τ 2 (100 * uc) 100 (τ 1)) 0 3 (nI (uc + 1)), ?_, fun x a b => ?_, fun k a => ?_, ?_, fun _ => ⟨fun j hj => ?_, fun k hk => ?_⟩, fun q => absurd q h6⟩
    · unfold f12_keepsAhead
      rw [h3, l_6, if_neg (by rw [nI_eq (by omega) (by omega)]; exact h6)]
      have b := e12_keepL55 h3 (by omega) 100 0 z_fu (by omega) (by decide)
      rw [fl_0] at b
      exact b
    · rw [s_ne a, fl_ne b]
    · rw [s_kn a, fl_ne (by omega)]
    · rw [s_eq, Nat.min_eq_right (by omega)]
    · rw [s_ne (by omega), fl_out (by omega)]
    · rw [s_ne (by omega), fl_in (by omega) (by omega), Nat.add_sub_cancel_left]
/-- keep, on both sides -/
theorem e_keep {H : Nat} {σ τ : z_M} (hU : R_und H σ τ) (hB : G_be H 999 (σ 18) (σ 19) (σ 20) (σ 21) (σ 22) (σ 23) (τ 1)) : ∃ σ' τ', f10_keep 18 σ = some ((), σ') ∧ f12_keepsAhead τ = some ((), τ') ∧ R_und H σ' τ' ∧ (∀ x, x < 58 ∨ 95 < x → σ' x = σ x) ∧ (∀ x, x ≠ 0 → x ≠ 2 → τ' x = τ x) ∧ ∀ k, k ≠ 3 → τ' 0 k = τ 0 k := by
  obtain ⟨nx, uc, u1, u2, u3, u4, u5, u6⟩ := hU
  obtain ⟨σ', a1, a2, a3, a4, a5⟩ := e10_keep u3 u4 u1 u2
  obtain ⟨τ', b1, b2, b3, b4, b5, b6⟩ := e12_keep u5 u2
  refine ⟨σ', τ', a1, b1, ⟨(nx + 1) % 6, min 6 (uc + 1), by omega, by omega, a3, a4, b4, fun j hj b hb => ?_⟩, fun x hx => a2 x (by omega) (by omega), b2, b3⟩
  have new : ∀ (f : Nat → Int32), (∀ k, k < 100 → f k = τ 1 k) → b = 60 + 6 * nx → G_be H 999 (σ' b) (σ' (b + 1)) (σ' (b + 2)) (σ' (b + 3)) (σ' (b + 4)) (σ' (b + 5)) f := by
    intro f hf e
    subst e
    exact G_be_cong hB a5.1 a5.2.1 a5.2.2 hf
  have old : ∀ (f : Nat → Int32) (i : Nat), i < uc → b = 60 + 6 * ((nx + 6 - uc + i) % 6) → b ≠ 60 + 6 * nx → (∀ k, k < 100 → f k = τ 2 (100 * i + k)) → G_be H 999 (σ' b) (σ' (b + 1)) (σ' (b + 2)) (σ' (b + 3)) (σ' (b + 4)) (σ' (b + 5)) f := by
    intro f i hi e hne hf
    have hm : (nx + 6 - uc + i) % 6 < 6 := Nat.mod_lt _ (by omega)
    have hy : ∀ y, y ≤ 5 → σ' (b + y) = σ (b + y) := fun y hy => a2 _ (by omega) (by omega)
    have g := u6 i hi b e
    rw [show σ' b = σ b from hy 0 (by omega), hy 1 (by omega), hy 2 (by omega), hy 3 (by omega), hy 4 (by omega), hy 5 (by omega)]
    exact G_be_cong g (fun _ _ _ => rfl) (fun _ _ => rfl) (fun _ _ => ⟨rfl, rfl, rfl, rfl⟩) hf
  by_cases h6 : uc = 6
  · obtain ⟨c1, c2⟩ := b6 h6
    subst h6
    by_cases hj5 : j = 5
    · subst hj5
      exact new _ c2 (by omega)
    · refine old _ (j + 1) (by omega) (by omega) (by omega) (fun k hk => ?_)
      show τ' 2 (100 * j + k) = _
      rw [c1 _ (by omega)]; congr 1; omega
  · obtain ⟨c1, c2⟩ := b5 (by omega)
    by_cases hju : j = uc
    · subst hju
      exact new _ c2 (by omega)
    · refine old _ j (by omega) (by omega) (by omega) (fun k hk => ?_)
      show τ' 2 (100 * j + k) = _
      exact c1 _ (by omega)
/-- the relation, when the beds, THE BOOK and what can be undone have changed -/
theorem Rel0_beds {H : Nat} {σ τ σ' τ' : z_M} (h : Rel0 σ τ) (hN : R_now H σ τ) (hU : R_und H σ' τ') (hB : G_be H 999 (σ' 18) (σ' 19) (σ' 20) (σ' 21) (σ' 22) (σ' 23) (τ' 1)) (hb : G_bo (σ' 17) (τ' 6)) (hσ : ∀ c, c ≤ 16 ∨ (24 ≤ c ∧ c ≤ 46) ∨ (50 ≤ c ∧ c ≤ 51) ∨ (96 ≤ c ∧ c ≤ 97) ∨ c = 101 → σ' c = σ c) (hτ : ∀ c, c ≠ 0 → c ≠ 1 → c ≠ 2 → c ≠ 3 → c ≠ 6 → c ≤ 19 ∨ 29 ≤ c → c ≠ 32 → τ' c = τ c) (h0 : ∀ k, k ≠ 3 → k ≠ 44 → τ' 0 k = τ 0 k) : Rel0 σ' τ' := by
  obtain ⟨-, hI, hT, hF, hC⟩ := h
  obtain ⟨g1, g2, g3, g4, g5, g6, g7, g8, g9, g10⟩ := hN
  have t4 := hτ 4 (by omega) (by omega) (by omega) (by omega) (by omega) (by omega) (by omega)
  have t5 := hτ 5 (by omega) (by omega) (by omega) (by omega) (by omega) (by omega) (by omega)
  have t7 := hτ 7 (by omega) (by omega) (by omega) (by omega) (by omega) (by omega) (by omega)
  have t8 := hτ 8 (by omega) (by omega) (by omega) (by omega) (by omega) (by omega) (by omega)
  have t9 := hτ 9 (by omega) (by omega) (by omega) (by omega) (by omega) (by omega) (by omega)
  have t10 := hτ 10 (by omega) (by omega) (by omega) (by omega) (by omega) (by omega) (by omega)
  have t11 := hτ 11 (by omega) (by omega) (by omega) (by omega) (by omega) (by omega) (by omega)
  have t12 := hτ 12 (by omega) (by omega) (by omega) (by omega) (by omega) (by omega) (by omega)
  have t13 := hτ 13 (by omega) (by omega) (by omega) (by omega) (by omega) (by omega) (by omega)
  have t14 := hτ 14 (by omega) (by omega) (by omega) (by omega) (by omega) (by omega) (by omega)
  have t15 := hτ 15 (by omega) (by omega) (by omega) (by omega) (by omega) (by omega) (by omega)
  have t17 := hτ 17 (by omega) (by omega) (by omega) (by omega) (by omega) (by omega) (by omega)
  have t18 := hτ 18 (by omega) (by omega) (by omega) (by omega) (by omega) (by omega) (by omega)
  have t19 := hτ 19 (by omega) (by omega) (by omega) (by omega) (by omega) (by omega) (by omega)
  have t29 := hτ 29 (by omega) (by omega) (by omega) (by omega) (by omega) (by omega) (by omega)
  have t30 := hτ 30 (by omega) (by omega) (by omega) (by omega) (by omega) (by omega) (by omega)
  have t31 := hτ 31 (by omega) (by omega) (by omega) (by omega) (by omega) (by omega) (by omega)
  have t33 := hτ 33 (by omega) (by omega) (by omega) (by omega) (by omega) (by omega) (by omega)
  have hm : m_sc τ' = m_sc τ := by
    unfold m_sc
    rw [h0 6 (by omega) (by omega), h0 7 (by omega) (by omega), h0 8 (by omega) (by omega), h0 9 (by omega) (by omega), h0 36 (by omega) (by omega), h0 38 (by omega) (by omega), h0 40 (by omega) (by omega), h0 52 (by omega) (by omega)]
  refine ⟨⟨H, ?_, hU⟩, ?_, ?_, ?_, ?_⟩
  · unfold R_now G_all
    rw [hm, t4, t5, t29, t30, t31, t17, t18, t19, t9, t10, t11, t12, t13, t14, t15]
    rw [hσ 1 (by omega), hσ (1 + 1) (by omega), hσ (1 + 2) (by omega), hσ (1 + 3) (by omega), hσ (1 + 4) (by omega), hσ (1 + 6) (by omega), hσ (1 + 7) (by omega), hσ (1 + 8) (by omega), hσ (1 + 9) (by omega), hσ (1 + 10) (by omega), hσ (1 + 12) (by omega), hσ (1 + 13) (by omega), hσ (1 + 15) (by omega)]
    exact ⟨g1, g2, g3, g4, g5, g6, g7, g8, hb, hB⟩
  · unfold R_img at hI ⊢
    rw [t33, hσ 0 (by omega), h0 58 (by omega) (by omega)]
    refine ⟨hI.1, hI.2.imp id (fun q => ⟨q.1, ?_⟩)⟩
    obtain ⟨H', q2⟩ := q.2
    exact ⟨H', G_all_frame q2 (fun c h1 h2 => hσ c (by omega))⟩
  · obtain ⟨n, t1, t2, t3, t4⟩ := hT
    exact ⟨n, t1, by rw [hσ 96 (by omega)]; exact t2, by rw [h0 14 (by omega) (by omega)]; exact t3, by rw [hσ 97 (by omega), t7]; exact t4⟩
  · rw [hσ 101 (by omega), h0 34 (by omega) (by omega), h0 35 (by omega) (by omega)]; exact hF
  · rw [hσ 50 (by omega), hσ 51 (by omega), h0 5 (by omega) (by omega), t8, hσ 4 (by omega), hσ 10 (by omega), hσ 13 (by omega), hσ 27 (by omega), hσ 33 (by omega), hσ 36 (by omega)]; exact hC
theorem e12_undoL {u : Nat} {τ : z_M} (h3 : τ 0 3 = nI u) (hu : u ≤ 5) : ∀ (r k n : Nat), k + r = 100 → r < n → f12_undo_L26 n (nI k) (z_fl τ 1 0 k (fun j => τ 2 (100 * u + j))) = some (1, z_fl τ 1 0 100 (fun j => τ 2 (100 * u + j)))
  | 0, k, n, hk, hn => by
    obtain ⟨m, rfl⟩ : ∃ m, n = m + 1 := ⟨n - 1, by omega⟩
    obtain rfl : k = 100 := by omega
    unfold f12_undo_L26
    rw [l_100, if_neg (nI_nlt (by omega) (by omega))]
  | r + 1, k, n, hk, hn => by
    obtain ⟨m, rfl⟩ : ∃ m, n = m + 1 := ⟨n - 1, by omega⟩
    unfold f12_undo_L26
    rw [l_100, if_pos (nI_lt (by omega) (by omega)), fl_ne (show 0 ≠ 1 by omega), fl_ne (show 2 ≠ 1 by omega), h3, pk_mul, nI_add, k_cin _ (by omega) (by omega), k_cin _ (by omega) (by omega), q_ix (by omega), q_ix (by omega), q_let, fl_s (by omega) rfl, nI_1]
    exact e12_undoL h3 hu r (k + 1) m (by omega) (by omega)
theorem p_undo0 : p_undo Rel0 := by
  intro σ τ hR
  replace hR := Rel0_told hR
  unfold f12_undo
  rw [q_let]
  generalize z_set τ 0 0 0 = τ at hR ⊢
  have hR0 := hR
  obtain ⟨⟨H, hN, hU⟩, hI, hT, hF, hC⟩ := hR
  have hN0 := hN
  obtain ⟨g1, g2, g3, g4, g5, g6, g7, g8, g9, g10⟩ := hN
  obtain ⟨nx, uc, u1, u2, u3, u4, u5, u6⟩ := hU
  by_cases h0 : uc = 0
  · subst h0
    refine ⟨0, σ, τ, ?_, ?_, hR0⟩
    · unfold f11_undo f10_goBack
      rw [u4, if_pos nI_0]; rfl
    · rw [u5, if_pos nI_0]
  · have hnx : (if 0 < nx then nx - 1 else 5) = (nx + 5) % 6 := by split <;> omega
    have hm : (nx + 5) % 6 < 6 := Nat.mod_lt _ (by omega)
    let σ1 := z_set (z_set σ 58 1 (nI ((nx + 5) % 6))) 58 2 (nI (uc - 1))
    obtain ⟨σ2, e1, e2, e3⟩ := e0_copy (b := 18) (c := 60 + 6 * ((nx + 5) % 6)) (by omega) σ1
    let τ1 := z_set τ 0 3 (nI (uc - 1))
    refine ⟨1, σ2, z_fl τ1 1 0 100 (fun j => τ1 2 (100 * (uc - 1) + j)), ?_, ?_, ?_⟩
    · have hj : f10_goBack 18 σ = f10_goBack_J27 18 (nI ((nx + 5) % 6)) σ := by
        unfold f10_goBack
        rw [u4, if_neg (nI_ne0 (by omega) (by omega)), u3]
        by_cases hp : 0 < nx
        · rw [l_0, if_pos (nI_lt hp (by omega)), l_1, pk_sub (by omega), ← hnx, if_pos hp]
        · rw [l_0, if_neg (nI_nlt (by omega) (by omega)), ← hnx, if_neg hp]; rfl
      unfold f11_undo
      rw [hj]
      unfold f10_goBack_J27
      rw [q_let, q_let, s_kn (show 2 ≠ 1 by omega), u4, l_1, pk_sub (by omega), s_kn (show 1 ≠ 2 by omega), s_eq, k_cin _ hm (by omega), q_ix (by omega)]
      show z_bnd (z_bnd (f0_copyFrom 18 (60 + 6 * ((nx + 5) % 6)) σ1) _) _ = _
      rw [e1]; rfl
    · rw [u5, if_neg (nI_ne0 (by omega) (by omega)), q_let, l_1, pk_sub (by omega)]
      have a := e12_undoL (u := uc - 1) (τ := τ1) s_eq (by omega) 100 0 z_fu (by omega) (by decide)
      rw [fl_0] at a
      exact a
    · have f1 : ∀ x, x < 18 ∨ 23 < x → x ≠ 58 → σ2 x = σ x := fun x a b => by
        rw [e2 x (by omega)]
        show z_set (z_set σ 58 1 _) 58 2 _ x = _
        rw [s_ne b, s_ne b]
      have f2 : ∀ x, x ≠ 58 → σ1 x = σ x := fun x b => by
        show z_set (z_set σ 58 1 _) 58 2 _ x = _
        rw [s_ne b, s_ne b]
      have gB := u6 (uc - 1) (by omega) (60 + 6 * ((nx + 5) % 6)) (by congr 2; omega)
      have hB : G_be H 999 (σ2 18) (σ2 19) (σ2 20) (σ2 21) (σ2 22) (σ2 23) (z_fl τ1 1 0 100 (fun j => τ1 2 (100 * (uc - 1) + j)) 1) := by
        refine G_be_cong gB (fun k a b => ?_) (fun k a => ?_) (fun k a => ⟨?_, ?_, ?_, ?_⟩) (fun k a => ?_)
        · rw [e3.1 k a b, f2 _ (by omega)]
        · rw [e3.2.1 k a, f2 _ (by omega)]
        · rw [(e3.2.2 k a).1, f2 _ (by omega)]
        · rw [(e3.2.2 k a).2.1, f2 _ (by omega)]
        · rw [(e3.2.2 k a).2.2.1, f2 _ (by omega)]
        · rw [(e3.2.2 k a).2.2.2, f2 _ (by omega)]
        · rw [fl_in (by omega) (by omega), Nat.sub_zero]; rfl
      refine Rel0_beds hR0 hN0 ⟨(nx + 5) % 6, uc - 1, hm, by omega, ?_, ?_, ?_, fun j hj b hb => ?_⟩ hB ?_ (fun c hc => f1 c (by omega) (by omega)) (fun c a b _ _ _ _ _ => ?_) (fun k a b => ?_)
      · rw [e2 58 (by omega)]
        show z_set (z_set σ 58 1 _) 58 2 _ 58 1 = _
        rw [s_kn (by omega), s_eq]
      · rw [e2 58 (by omega)]; exact s_eq
      · rw [fl_ne (by omega)]; exact s_eq
      · have hb2 : (((nx + 5) % 6) + 6 - (uc - 1) + j) % 6 = (nx + 6 - uc + j) % 6 := by omega
        rw [hb2] at hb
        have hm2 : (nx + 6 - uc + j) % 6 < 6 := Nat.mod_lt _ (by omega)
        rw [f1 b (by omega) (by omega), f1 (b + 1) (by omega) (by omega), f1 (b + 2) (by omega) (by omega), f1 (b + 3) (by omega) (by omega), f1 (b + 4) (by omega) (by omega), f1 (b + 5) (by omega) (by omega), fl_ne (show 2 ≠ 1 by omega)]
        exact u6 j (by omega) b hb
      · rw [f1 17 (by omega) (by omega), fl_ne (show 6 ≠ 1 by omega)]; exact g9
      · rw [fl_ne b]; exact s_ne a
      · rw [fl_ne (by omega)]; exact s_kn a
