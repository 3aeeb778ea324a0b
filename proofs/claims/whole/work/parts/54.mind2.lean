/-! sums over sets; reasons; struck, down -/
def ws (w : Nat → Nat) (p : Nat → Bool) : Nat → Nat
  | 0 => 0
  | k + 1 => ws w p k + if p k = true then w k else 0
theorem ws_s {w : Nat → Nat} {p : Nat → Bool} {k : Nat} : ws w p (k + 1) = ws w p k + if p k = true then w k else 0 := rfl
theorem ws_mono {w : Nat → Nat} {p q : Nat → Bool} : ∀ {k : Nat}, (∀ i, i < k → p i = true → q i = true) → ws w p k ≤ ws w q k
  | 0, _ => Nat.le_refl 0
  | k + 1, h => by
    have h1 := ws_mono (w := w) (k := k) (fun i hi => h i (by omega))
    have h2 := h k (by omega)
    unfold ws
    by_cases hp : p k = true
    · rw [if_pos hp, if_pos (h2 hp)]; omega
    · rw [if_neg hp]; split <;> omega
theorem ws_strict {w : Nat → Nat} {p q : Nat → Bool} : ∀ {k : Nat}, (∀ i, i < k → p i = true → q i = true) → (∃ i, i < k ∧ p i = false ∧ q i = true ∧ 0 < w i) → ws w p k < ws w q k
  | 0, _, ⟨i, hi, _⟩ => absurd hi (by omega)
  | k + 1, h, ⟨i, hi, e1, e2, e3⟩ => by
    unfold ws
    by_cases hik : i = k
    · subst hik
      have h1 := ws_mono (w := w) (k := i) (fun j hj => h j (by omega))
      rw [if_neg (by rw [e1]; decide), if_pos e2]; omega
    · have h1 := ws_strict (w := w) (k := k) (fun j hj => h j (by omega)) ⟨i, by omega, e1, e2, e3⟩
      have h2 := h k (by omega)
      by_cases hp : p k = true
      · rw [if_pos hp, if_pos (h2 hp)]; omega
      · rw [if_neg hp]; split <;> omega
theorem ws_le {w : Nat → Nat} {p : Nat → Bool} {c : Nat} : ∀ {k : Nat}, (∀ i, i < k → w i ≤ c) → ws w p k ≤ c * k
  | 0, _ => Nat.le_refl 0
  | k + 1, h => by
    have h1 := ws_le (p := p) (k := k) (fun i hi => h i (by omega))
    have h2 := h k (by omega)
    unfold ws
    rw [Nat.mul_succ]
    split <;> omega
theorem cN_ws (p : Nat → Bool) : ∀ k, cN p k = ws (fun _ => 1) p k
  | 0 => rfl
  | k + 1 => by unfold cN ws; rw [cN_ws p k]
theorem dN_0 {a b : Nat} (ha : a < 256) (h : dN a b = 0) (i : Nat) (hi : a.testBit i = true) : b.testBit i = true := by
  have := t_dN ha b i
  rw [h, hi] at this
  simp at this
  exact this
theorem dN_lt {a : Nat} (ha : a < 256) (b : Nat) : dN a b < 256 := Nat.lt_of_le_of_lt (dN_le a b) ha
theorem k_z {a : Nat} (h : a = 0) : nI a = 0 := by rw [h]; rfl
theorem k_nz {a : Nat} (h : ¬ a = 0) (h2 : a < 2 ^ 31) : ¬ nI a = 0 := nI_ne0 (by omega) h2
/-- REASONS as numbers -/
def RS (n : Nat) (R0 R1 R2 : Nat → Nat) (σ τ : z_M) : Prop := n ≤ 16 ∧ σ 4 2 = nI n ∧ τ 0 36 = nI n ∧ ∀ i, i < n → R0 i < 8 ∧ 0 < R1 i ∧ R1 i < 256 ∧ R2 i ≤ 100 ∧ (σ 5 (5 * i) = nI (R0 i) ∧ σ 5 (5 * i + 1) = nI (R1 i) ∧ σ 5 (5 * i + 2) = nI (R2 i)) ∧ (τ 17 (3 * i) = nI (R0 i) ∧ τ 17 (3 * i + 1) = nI (R1 i) ∧ τ 17 (3 * i + 2) = nI (R2 i))
theorem RS_of {σ τ : z_M} (h : G_re (σ 4 2) (τ 0 36) (σ 5) (τ 17)) : ∃ n R0 R1 R2, RS n R0 R1 R2 σ τ := by
  obtain ⟨n, hn, e1, e2, hl⟩ := h
  refine ⟨n, fun i => z_ix (σ 5 (5 * i)), fun i => z_ix (σ 5 (5 * i + 1)), fun i => z_ix (σ 5 (5 * i + 2)), hn, e1, e2, fun i hi => ?_⟩
  obtain ⟨⟨m0, m1, m2⟩, ⟨t, ht, e0⟩, ⟨s, hs, hs2, e1⟩, g, hg, e2⟩ := hl i hi
  show z_ix (σ 5 (5 * i)) < 8 ∧ 0 < z_ix (σ 5 (5 * i + 1)) ∧ z_ix (σ 5 (5 * i + 1)) < 256 ∧ z_ix (σ 5 (5 * i + 2)) ≤ 100 ∧ (σ 5 (5 * i) = nI (z_ix (σ 5 (5 * i))) ∧ σ 5 (5 * i + 1) = nI (z_ix (σ 5 (5 * i + 1))) ∧ σ 5 (5 * i + 2) = nI (z_ix (σ 5 (5 * i + 2)))) ∧ (τ 17 (3 * i) = nI (z_ix (σ 5 (5 * i))) ∧ τ 17 (3 * i + 1) = nI (z_ix (σ 5 (5 * i + 1))) ∧ τ 17 (3 * i + 2) = nI (z_ix (σ 5 (5 * i + 2))))
  rw [m0, m1, m2, e0, e1, e2, q_ix (by omega), q_ix (by omega), q_ix (by omega)]
  exact ⟨ht, hs, hs2, hg, ⟨rfl, rfl, rfl⟩, rfl, rfl, rfl⟩
theorem RS_cong {n : Nat} {R0 R1 R2 : Nat → Nat} {σ τ σ' τ' : z_M} (h : RS n R0 R1 R2 σ τ) (e1 : σ' 4 2 = σ 4 2) (e2 : σ' 5 = σ 5) (e3 : τ' 0 36 = τ 0 36) (e4 : τ' 17 = τ 17) : RS n R0 R1 R2 σ' τ' := by
  unfold RS at h ⊢
  rw [e1, e2, e3, e4]; exact h
theorem RS_a0 {n i : Nat} {R0 R1 R2 : Nat → Nat} {σ τ : z_M} (h : RS n R0 R1 R2 σ τ) (hi : i < n) : f9_at 4 (nI i) 0 σ = some (nI (R0 i), σ) := by
  obtain ⟨h1, -, -, h2⟩ := h
  rw [l_0, e9_at (N := 80) rfl (by omega) (by omega), show σ (4 + 1) (5 * i + 0) = nI (R0 i) from (h2 i hi).2.2.2.2.1.1]
theorem RS_a1 {n i : Nat} {R0 R1 R2 : Nat → Nat} {σ τ : z_M} (h : RS n R0 R1 R2 σ τ) (hi : i < n) : f9_at 4 (nI i) 1 σ = some (nI (R1 i), σ) := by
  obtain ⟨h1, -, -, h2⟩ := h
  rw [l_1, e9_at (N := 80) rfl (by omega) (by omega), (h2 i hi).2.2.2.2.1.2.1]
theorem RS_a2 {n i : Nat} {R0 R1 R2 : Nat → Nat} {σ τ : z_M} (h : RS n R0 R1 R2 σ τ) (hi : i < n) : f9_at 4 (nI i) 2 σ = some (nI (R2 i), σ) := by
  obtain ⟨h1, -, -, h2⟩ := h
  rw [l_2, e9_at (N := 80) rfl (by omega) (by omega), (h2 i hi).2.2.2.2.1.2.2]
theorem RS_m0 {n i : Nat} {R0 R1 R2 : Nat → Nat} {σ τ : z_M} (h : RS n R0 R1 R2 σ τ) (hi : i < n) : f12_ofReason (nI i) 0 τ = some (nI (R0 i), τ) := by
  obtain ⟨h1, -, -, h2⟩ := h
  rw [l_0, e12_ofReason (by omega), Nat.add_zero, (h2 i hi).2.2.2.2.2.1]
theorem RS_m1 {n i : Nat} {R0 R1 R2 : Nat → Nat} {σ τ : z_M} (h : RS n R0 R1 R2 σ τ) (hi : i < n) : f12_ofReason (nI i) 1 τ = some (nI (R1 i), τ) := by
  obtain ⟨h1, -, -, h2⟩ := h
  rw [l_1, e12_ofReason (by omega), (h2 i hi).2.2.2.2.2.2.1]
theorem RS_m2 {n i : Nat} {R0 R1 R2 : Nat → Nat} {σ τ : z_M} (h : RS n R0 R1 R2 σ τ) (hi : i < n) : f12_ofReason (nI i) 2 τ = some (nI (R2 i), τ) := by
  obtain ⟨h1, -, -, h2⟩ := h
  rw [l_2, e12_ofReason (by omega), (h2 i hi).2.2.2.2.2.2.2]
theorem fl_u {σ : z_M} {c a k j : Nat} {g : Nat → Int32} {v : Int32} (h : a ≤ j) (h2 : j < a + k) : z_set (z_fl σ c a k g) c j v = z_fl σ c a k (upd g (j - a) v) := by
  funext c' i
  by_cases hc : c' = c
  · subst hc
    by_cases hi : i = j
    · subst hi; rw [s_eq, fl_in h h2, q_upd, if_pos rfl]
    · rw [s_kn hi]
      by_cases h3 : a ≤ i ∧ i < a + k
      · rw [fl_in h3.1 h3.2, fl_in h3.1 h3.2, q_upd, if_neg (by omega)]
      · rw [fl_out (by omega), fl_out (by omega)]
  · rw [s_ne hc, fl_ne hc, fl_ne hc]
theorem fl_cong {σ : z_M} {c a k : Nat} {g g' : Nat → Int32} (h : ∀ i, i < k → g i = g' i) : z_fl σ c a k g = z_fl σ c a k g' := by
  funext c' i
  by_cases hc : c' = c
  · subst hc
    by_cases h3 : a ≤ i ∧ i < a + k
    · rw [fl_in h3.1 h3.2, fl_in h3.1 h3.2, h _ (by omega)]
    · rw [fl_out (by omega), fl_out (by omega)]
  · rw [fl_ne hc, fl_ne hc]
/-- what clashes with t, by the first k reasons -/
def clN (R0 R1 R2 : Nat → Nat) : Nat → Nat → Nat
  | 0, _ => 0
  | k + 1, t => if R2 k = 0 ∧ R0 k = t then clN R0 R1 R2 k t ||| R1 k else clN R0 R1 R2 k t
theorem clN_lt {n : Nat} {R0 R1 R2 : Nat → Nat} {t : Nat} : ∀ {k : Nat}, (∀ i, i < k → R1 i < 256) → clN R0 R1 R2 k t < 256
  | 0, _ => by unfold clN; omega
  | k + 1, h => by
    have h1 := clN_lt (n := n) (R0 := R0) (R1 := R1) (R2 := R2) (t := t) (k := k) (fun i hi => h i (by omega))
    unfold clN
    split
    · exact Nat.or_lt_two_pow (n := 8) h1 (h k (by omega))
    · exact h1
theorem or_and0 (a b s : Nat) : (a ||| b) &&& s = 0 ↔ a &&& s = 0 ∧ b &&& s = 0 := by
  constructor
  · intro h
    have h2 : ∀ i, ((a ||| b) &&& s).testBit i = false := fun i => by rw [h]; exact Nat.zero_testBit i
    refine ⟨Nat.eq_of_testBit_eq fun i => ?_, Nat.eq_of_testBit_eq fun i => ?_⟩
    · have := h2 i
      rw [Nat.testBit_and, Nat.testBit_or] at this
      rw [Nat.testBit_and, Nat.zero_testBit]
      cases ha : a.testBit i <;> cases hb : b.testBit i <;> cases hs : s.testBit i <;> simp_all
    · have := h2 i
      rw [Nat.testBit_and, Nat.testBit_or] at this
      rw [Nat.testBit_and, Nat.zero_testBit]
      cases ha : a.testBit i <;> cases hb : b.testBit i <;> cases hs : s.testBit i <;> simp_all
  · rintro ⟨h1, h2⟩
    have e1 : ∀ i, (a &&& s).testBit i = false := fun i => by rw [h1]; exact Nat.zero_testBit i
    have e2 : ∀ i, (b &&& s).testBit i = false := fun i => by rw [h2]; exact Nat.zero_testBit i
    refine Nat.eq_of_testBit_eq fun i => ?_
    have f1 := e1 i
    have f2 := e2 i
    rw [Nat.testBit_and] at f1 f2
    rw [Nat.testBit_and, Nat.testBit_or, Nat.zero_testBit]
    cases ha : a.testBit i <;> cases hb : b.testBit i <;> cases hs : s.testBit i <;> simp_all
theorem clN_and (R0 R1 R2 : Nat → Nat) (t s : Nat) : ∀ k, clN R0 R1 R2 k t &&& s = 0 ↔ ∀ i, i < k → R2 i = 0 → R0 i = t → R1 i &&& s = 0
  | 0 => ⟨fun _ i hi => absurd hi (by omega), fun _ => Nat.zero_and s⟩
  | k + 1 => by
    have h1 := clN_and R0 R1 R2 t s k
    unfold clN
    by_cases hc : R2 k = 0 ∧ R0 k = t
    · rw [if_pos hc, or_and0, h1]
      constructor
      · rintro ⟨a, b⟩ i hi h2 h3
        by_cases e : i = k
        · subst e; exact b
        · exact a i (by omega) h2 h3
      · intro a
        exact ⟨fun i hi => a i (by omega), a k (by omega) hc.1 hc.2⟩
    · rw [if_neg hc, h1]
      constructor
      · intro a i hi h2 h3
        by_cases e : i = k
        · subst e; exact absurd ⟨h2, h3⟩ hc
        · exact a i (by omega) h2 h3
      · intro a i hi
        exact a i (by omega)
theorem e6_clL2 (σ : z_M) : ∀ (r k n : Nat), k + r = 8 → r < n → f6_findClashes_L2 n 4 (nI k) (z_fl σ 111 0 k (fun _ => 0)) = f6_findClashes_J21 4 (z_fl σ 111 0 8 (fun _ => 0))
  | 0, k, n, h1, h2 => by
    obtain ⟨n, rfl⟩ : ∃ m, n = m + 1 := ⟨n - 1, by omega⟩
    obtain rfl : k = 8 := by omega
    unfold f6_findClashes_L2
    rw [l_8, if_neg (nI_nlt (by omega) (by omega))]
  | r + 1, k, n, h1, h2 => by
    obtain ⟨n, rfl⟩ : ∃ m, n = m + 1 := ⟨n - 1, by omega⟩
    unfold f6_findClashes_L2
    rw [l_8, if_pos (nI_lt (by omega) (by omega)), k_cin _ (by omega) (by omega), q_ix (by omega), q_let, fl_s (by omega) rfl, nI_1]
    exact e6_clL2 σ r (k + 1) n (by omega) (by omega)
theorem e6_clL23 {n : Nat} {R0 R1 R2 : Nat → Nat} {σ τ : z_M} (h : RS n R0 R1 R2 σ τ) : ∀ (r k f : Nat), k + r = n → r < f → f6_findClashes_L23 f 4 (nI k) (z_fl σ 111 0 8 (fun t => nI (clN R0 R1 R2 k t))) = some ((), z_fl σ 111 0 8 (fun t => nI (clN R0 R1 R2 n t)))
  | 0, k, f, h1, h2 => by
    obtain ⟨f, rfl⟩ : ∃ m, f = m + 1 := ⟨f - 1, by omega⟩
    obtain rfl : k = n := by omega
    unfold f6_findClashes_L23
    rw [fl_ne (by omega), h.2.1, if_neg (nI_nlt (by omega) (have := h.1; by omega))]
  | r + 1, k, f, h1, h2 => by
    obtain ⟨f, rfl⟩ : ∃ m, f = m + 1 := ⟨f - 1, by omega⟩
    have ih := e6_clL23 h r (k + 1) f (by omega) (by omega)
    have hn := h.1
    obtain ⟨r0, -, r1, r2, -⟩ := h.2.2.2 k (by omega)
    have hm : RS n R0 R1 R2 (z_fl σ 111 0 8 (fun t => nI (clN R0 R1 R2 k t))) τ := RS_cong h (by rw [fl_ne (by omega)]) (fl_ne (by omega)) rfl rfl
    unfold f6_findClashes_L23
    rw [fl_ne (show 4 ≠ 111 by omega), h.2.1, if_pos (nI_lt (by omega) (by omega)), RS_a2 hm (by omega), q_bnd, nI_1]
    by_cases hc : R2 k = 0
    · rw [if_pos (k_z hc), RS_a0 hm (by omega), q_bnd, k_cin _ r0 (by omega), RS_a1 hm (by omega), q_bnd, k_cin _ r0 (by omega), q_ix (by omega), q_let, fl_in (by omega) (by omega), k_or, fl_u (by omega) (by omega)]
      rw [← ih]
      congr 1
      apply fl_cong
      intro t ht
      rw [q_upd, Nat.sub_zero]
      show (if t = R0 k then _ else nI (clN R0 R1 R2 k t)) = nI (clN R0 R1 R2 (k + 1) t)
      conv => rhs; unfold clN
      by_cases e : t = R0 k
      · rw [if_pos e, if_pos ⟨hc, e.symm⟩, e]
      · rw [if_neg e, if_neg (fun q => e q.2.symm)]
    · rw [if_neg (k_nz hc (by omega)), ← ih]
      congr 1
      apply fl_cong
      intro t ht
      show nI (clN R0 R1 R2 k t) = nI (clN R0 R1 R2 (k + 1) t)
      conv => rhs; unfold clN
      rw [if_neg (fun q => hc q.1)]
theorem e6_clashes {n : Nat} {R0 R1 R2 : Nat → Nat} {σ τ : z_M} (h : RS n R0 R1 R2 σ τ) : f6_findClashes 4 σ = some ((), z_fl σ 111 0 8 (fun t => nI (clN R0 R1 R2 n t))) := by
  have hn := h.1
  have e := e6_clL2 σ 8 0 z_fu (by omega) (by decide)
  rw [fl_0] at e
  have e : f6_findClashes 4 σ = f6_findClashes_J21 4 (z_fl σ 111 0 8 (fun _ => 0)) := e
  rw [e]
  exact e6_clL23 h n 0 z_fu (by omega) (show n < 1000 by omega)
theorem e6_peace {σ : z_M} {cl : Nat → Nat} {s : Nat} (hs : s < 256) (hc : ∀ t, t < 8 → cl t < 256 ∧ σ 111 t = nI (cl t)) : ∀ (r k n : Nat), k + r = 8 → r < n → ∃ x, f6_isAtPeace_L2 n (nI s) (nI k) σ = some (x, σ) ∧ (x = 0 ∨ x = 1) ∧ (x = 1 ↔ ∀ t, k ≤ t → t < 8 → s.testBit t = true → cl t &&& s = 0)
  | 0, k, n, h1, h2 => by
    obtain ⟨n, rfl⟩ : ∃ m, n = m + 1 := ⟨n - 1, by omega⟩
    unfold f6_isAtPeace_L2
    rw [l_8, if_neg (nI_nlt (by omega) (by omega))]
    exact ⟨1, rfl, .inr rfl, fun _ t a b => absurd b (by omega), fun _ => rfl⟩
  | r + 1, k, n, h1, h2 => by
    obtain ⟨n, rfl⟩ : ∃ m, n = m + 1 := ⟨n - 1, by omega⟩
    obtain ⟨x, e1, e2, e3⟩ := e6_peace hs hc r (k + 1) n (by omega) (by omega)
    obtain ⟨c1, c2⟩ := hc k (by omega)
    unfold f6_isAtPeace_L2
    rw [l_8, if_pos (nI_lt (by omega) (by omega)), k_bit s hs k (by omega), nI_1]
    have up : (∀ t, k ≤ t → t < 8 → s.testBit t = true → cl t &&& s = 0) ↔ (s.testBit k = true → cl k &&& s = 0) ∧ ∀ t, k + 1 ≤ t → t < 8 → s.testBit t = true → cl t &&& s = 0 := by
      constructor
      · intro a
        exact ⟨a k (by omega) (by omega), fun t b => a t (by omega)⟩
      · rintro ⟨a, b⟩ t h3 h4
        by_cases e : t = k
        · subst e; exact a
        · exact b t (by omega) h4
    rw [up]
    by_cases hb : s.testBit k = true
    · rw [if_pos hb, if_neg (by decide), k_cin _ (by omega) (by omega), q_ix (by omega), c2, k_and]
      by_cases hz : cl k &&& s = 0
      · rw [if_pos (k_z hz)]
        exact ⟨x, e1, e2, e3.trans ⟨fun a => ⟨fun _ => hz, a⟩, fun a => a.2⟩⟩
      · rw [if_neg (k_nz hz (Nat.lt_of_le_of_lt Nat.and_le_right (by omega)))]
        exact ⟨0, rfl, .inl rfl, fun q => absurd q (by decide), fun q => absurd (q.1 hb) hz⟩
    · rw [if_neg hb, if_pos rfl]
      exact ⟨x, e1, e2, e3.trans ⟨fun a => ⟨fun q => absurd q hb, a⟩, fun a => a.2⟩⟩
theorem e12_peace {n s : Nat} {R0 R1 R2 : Nat → Nat} {σ τ : z_M} (h : RS n R0 R1 R2 σ τ) (hs : s < 256) : ∀ (r k f : Nat), k + r = n → r < f → ∃ x, f12_areAtPeace_L2 f (nI s) (nI k) τ = some (x, τ) ∧ (x = 0 ∨ x = 1) ∧ (x = 1 ↔ ∀ i, k ≤ i → i < n → R2 i = 0 → s.testBit (R0 i) = true → R1 i &&& s = 0)
  | 0, k, f, h1, h2 => by
    obtain ⟨f, rfl⟩ : ∃ m, f = m + 1 := ⟨f - 1, by omega⟩
    have hn := h.1
    unfold f12_areAtPeace_L2
    rw [h.2.2.1, if_neg (nI_nlt (by omega) (by omega))]
    exact ⟨1, rfl, .inr rfl, fun _ t a b => absurd b (by omega), fun _ => rfl⟩
  | r + 1, k, f, h1, h2 => by
    obtain ⟨f, rfl⟩ : ∃ m, f = m + 1 := ⟨f - 1, by omega⟩
    have hn := h.1
    obtain ⟨x, e1, e2, e3⟩ := e12_peace h hs r (k + 1) f (by omega) (by omega)
    obtain ⟨r0, -, r1, r2, -⟩ := h.2.2.2 k (by omega)
    unfold f12_areAtPeace_L2
    rw [h.2.2.1, if_pos (nI_lt (by omega) (by omega)), RS_m2 h (by omega), q_bnd, RS_m0 h (by omega), q_bnd, RS_m1 h (by omega), q_bnd, k_bit s hs _ r0, nI_1, k_and, Nat.and_comm s (R1 k)]
    have up : (∀ i, k ≤ i → i < n → R2 i = 0 → s.testBit (R0 i) = true → R1 i &&& s = 0) ↔ (R2 k = 0 → s.testBit (R0 k) = true → R1 k &&& s = 0) ∧ ∀ i, k + 1 ≤ i → i < n → R2 i = 0 → s.testBit (R0 i) = true → R1 i &&& s = 0 := by
      constructor
      · intro a
        exact ⟨a k (by omega) (by omega), fun t b => a t (by omega)⟩
      · rintro ⟨a, b⟩ t h3 h4
        by_cases e : t = k
        · subst e; exact a
        · exact b t (by omega) h4
    rw [up]
    by_cases hc : R2 k = 0
    · rw [if_pos (k_z hc)]
      by_cases hb : s.testBit (R0 k) = true
      · rw [if_pos hb, if_pos rfl]
        by_cases hz : R1 k &&& s = 0
        · rw [if_pos (k_z hz)]
          exact ⟨x, e1, e2, e3.trans ⟨fun a => ⟨fun _ _ => hz, a⟩, fun a => a.2⟩⟩
        · rw [if_neg (k_nz hz (Nat.lt_of_le_of_lt Nat.and_le_right (by omega)))]
          exact ⟨0, rfl, .inl rfl, fun q => absurd q (by decide), fun q => absurd (q.1 hc hb) hz⟩
      · rw [if_neg hb, if_neg (by decide)]
        exact ⟨x, e1, e2, e3.trans ⟨fun a => ⟨fun _ q => absurd q hb, a⟩, fun a => a.2⟩⟩
    · rw [if_neg (k_nz hc (by omega))]
      exact ⟨x, e1, e2, e3.trans ⟨fun a => ⟨fun q => absurd q hc, a⟩, fun a => a.2⟩⟩
/-- peace, alike on both sides -/
theorem e_peace {n s : Nat} {R0 R1 R2 : Nat → Nat} {σ τ σ' : z_M} (h : RS n R0 R1 R2 σ τ) (hs : s < 256) (hσ : ∀ t, t < 8 → σ' 111 t = nI (clN R0 R1 R2 n t)) : ∃ x, f6_isAtPeace (nI s) σ' = some (x, σ') ∧ f12_areAtPeace (nI s) τ = some (x, τ) ∧ (s = 0 → ¬ x = 0) := by
  have hn := h.1
  obtain ⟨x, a1, a2, a3⟩ := e6_peace (cl := clN R0 R1 R2 n) hs (fun t ht => ⟨clN_lt (n := n) (fun i hi => (h.2.2.2 i hi).2.2.1), hσ t ht⟩) 8 0 z_fu (by omega) (by decide)
  obtain ⟨y, b1, b2, b3⟩ := e12_peace h hs n 0 z_fu (by omega) (show n < 1000 by omega)
  have hiff : x = 1 ↔ y = 1 := by
    rw [a3, b3]
    constructor
    · intro q i _ hi h2 h3
      exact (clN_and R0 R1 R2 (R0 i) s n).mp (q (R0 i) (by omega) (h.2.2.2 i hi).1 h3) i hi h2 rfl
    · intro q t _ ht h3
      exact (clN_and R0 R1 R2 t s n).mpr (fun i hi h4 h5 => q i (by omega) hi h4 (by rw [h5]; exact h3))
  have hxy : x = y := by
    rcases a2 with a2 | a2 <;> rcases b2 with b2 | b2
    · rw [a2, b2]
    · exact absurd (hiff.mpr b2) (by rw [a2]; decide)
    · exact absurd (hiff.mp a2) (by rw [b2]; decide)
    · rw [a2, b2]
  subst hxy
  refine ⟨x, a1, b1, fun e q => ?_⟩
  have : x = 1 := a3.mpr (fun t _ _ hb => by rw [e, Nat.zero_testBit] at hb; exact absurd hb (by decide))
  rw [this] at q
  exact absurd q (by decide)
theorem e0_sumL {c h s : Nat} {d : Nat → Nat} {σ : z_M} (hh : h < 8) (hs : s < 256) (hd : ∀ t, t < 8 → d t ≤ 100 ∧ σ (c + 1) (8 * h + t) = nI (d t)) : ∀ (r k n : Nat), k + r = 8 → r < n → f0_sumOf_L5 n c (nI h) (nI s) (nI (ws d s.testBit k)) (nI k) σ = some (nI (ws d s.testBit 8), σ)
  | 0, k, n, h1, h2 => by
    obtain ⟨n, rfl⟩ : ∃ m, n = m + 1 := ⟨n - 1, by omega⟩
    obtain rfl : k = 8 := by omega
    unfold f0_sumOf_L5
    rw [l_8, if_neg (nI_nlt (by omega) (by omega))]
  | r + 1, k, n, h1, h2 => by
    obtain ⟨n, rfl⟩ : ∃ m, n = m + 1 := ⟨n - 1, by omega⟩
    have ih := e0_sumL hh hs hd r (k + 1) n (by omega) (by omega)
    unfold f0_sumOf_L5
    rw [k_bit s hs k (by omega), l_8, if_pos (nI_lt (by omega) (by omega)), nI_1, pk_mul, nI_add, k_cin _ (by omega) (by omega), q_ix (by omega), Nat.mul_comm h 8, (hd k (by omega)).2, q_let, nI_add]
    rw [ws_s (k := k)] at ih
    by_cases hb : s.testBit k = true
    · rw [if_pos hb] at ih
      rw [if_pos hb, if_neg (by decide)]; exact ih
    · rw [if_neg hb] at ih
      rw [if_neg hb, if_pos rfl]; exact ih
theorem e0_sum {c h s : Nat} {d : Nat → Nat} {σ : z_M} (hh : h < 8) (hs : s < 256) (hd : ∀ t, t < 8 → d t ≤ 100 ∧ σ (c + 1) (8 * h + t) = nI (d t)) : f0_sumOf c (nI h) (nI s) σ = some (nI (ws d s.testBit 8), σ) := e0_sumL hh hs hd 8 0 z_fu (by omega) (by decide)
theorem e12_sumL {h s : Nat} {d : Nat → Nat} {τ : z_M} (hh : h < 8) (hs : s < 256) (hd : ∀ t, t < 8 → d t ≤ 100 ∧ τ 1 (4 + (8 * h + t)) + 50 = nI (d t)) (kc : Int32 → Int32 → Int32 → Int32 → Int32 → Int32 → z_M → Option (Int32 × z_M)) (v2 v3 v4 v5 : Int32) : ∀ (r k n : Nat), k + r = 8 → r < n → f12_struck_L81 kc n (nI h) v2 v3 v4 v5 (nI s) (nI (ws d s.testBit k)) (nI k) τ = f12_struck_J117 kc (nI h) v2 v3 v4 v5 (nI s) (nI (ws d s.testBit 8)) τ
  | 0, k, n, h1, h2 => by
    obtain ⟨n, rfl⟩ : ∃ m, n = m + 1 := ⟨n - 1, by omega⟩
    obtain rfl : k = 8 := by omega
    unfold f12_struck_L81
    rw [l_8, if_neg (nI_nlt (by omega) (by omega))]
  | r + 1, k, n, h1, h2 => by
    obtain ⟨n, rfl⟩ : ∃ m, n = m + 1 := ⟨n - 1, by omega⟩
    have ih := e12_sumL hh hs hd kc v2 v3 v4 v5 r (k + 1) n (by omega) (by omega)
    unfold f12_struck_L81
    rw [k_bit s hs k (by omega), l_8, if_pos (nI_lt (by omega) (by omega)), nI_1, e12_degreeOf hh (by omega), q_bnd, (hd k (by omega)).2, nI_add]
    rw [ws_s (k := k)] at ih
    by_cases hb : s.testBit k = true
    · rw [if_pos hb] at ih
      rw [if_pos hb, if_pos rfl]; exact ih
    · rw [if_neg hb] at ih
      rw [if_neg hb, if_neg (by decide)]; exact ih
/-- the search for what is to be struck -/
theorem e_struck {n h S : Nat} {R0 R1 R2 d : Nat → Nat} {σ τ : z_M} (hr : RS n R0 R1 R2 σ τ) (hh : h < 8) (hS : S < 256) (hσ : ∀ t, t < 8 → σ 111 t = nI (clN R0 R1 R2 n t)) (hd : ∀ t, t < 8 → d t ≤ 100 ∧ σ 19 (8 * h + t) = nI (d t)) (hm : ∀ t, t < 8 → d t ≤ 100 ∧ τ 1 (4 + (8 * h + t)) + 50 = nI (d t)) (hpos : ∀ t, t < 8 → S.testBit t = true → 0 < d t) (p : Int32) : ∀ (r s f g b l : Nat) (bR lR : Int32), s + r = 256 → r < f → r < g → (s ≤ S ∧ b = S ∧ l = ws d S.testBit 8 ∧ bR = -1 ∧ lR = 100000) ∨ (b < 256 ∧ l = ws d b.testBit 8 ∧ bR = nI b ∧ lR = nI l ∧ (s ≤ S → l < ws d S.testBit 8)) → ∃ x, x < 256 ∧ f6_toStrike_L34 f 1 (nI h) (nI S) (nI b) (nI l) (nI s) σ = some (nI x, σ) ∧ f12_struck_L42 g (nI h) p (nI S) bR lR (nI s) τ = some (if p = 0 then nI (ws d x.testBit 8) else nI x, τ)
  | 0, s, f, g, b, l, bR, lR, h1, h2, h3, hi => by
    obtain ⟨f, rfl⟩ : ∃ m, f = m + 1 := ⟨f - 1, by omega⟩
    obtain ⟨g, rfl⟩ : ∃ m, g = m + 1 := ⟨g - 1, by omega⟩
    unfold f6_toStrike_L34 f12_struck_L42 f12_struck_J155
    rw [l_256, if_neg (nI_nlt (by omega) (by omega)), if_neg (nI_nlt (by omega) (by omega))]
    rcases hi with hi | ⟨a1, a2, a3, a4, -⟩
    · omega
    · refine ⟨b, a1, rfl, ?_⟩
      rw [a4, a3, a2]
      split <;> rfl
  | r + 1, s, f, g, b, l, bR, lR, h1, h2, h3, hi => by
    obtain ⟨f, rfl⟩ : ∃ m, f = m + 1 := ⟨f - 1, by omega⟩
    obtain ⟨g, rfl⟩ : ∃ m, g = m + 1 := ⟨g - 1, by omega⟩
    have hs : s < 256 := by omega
    have ih := fun b l bR lR => e_struck hr hh hS hσ hd hm hpos p r (s + 1) f g b l bR lR (by omega) (by omega) (by omega)
    have hw : ∀ x : Nat, ws d x.testBit 8 ≤ 800 := fun x => ws_le (c := 100) (fun i hi => (hd i hi).1)
    unfold f6_toStrike_L34 f12_struck_L42
    rw [l_256, if_pos (nI_lt (by omega) (by omega)), if_pos (nI_lt (by omega) (by omega)), k_dN hs, k_dN hS, nI_1]
    by_cases hsub : dN s S = 0
    · obtain ⟨x, p1, p2, p3⟩ := e_peace hr (dN_lt hS s) hσ
      rw [if_pos (k_z hsub), if_pos (k_z hsub), p1, p2, q_bnd, q_bnd]
      by_cases hx : x = 0
      · rw [if_pos hx, if_pos hx]
        have hne : s ≠ S := by
          intro e
          apply p3 _ hx
          rw [e]
          apply e_ext (dN_lt hS S) (by omega)
          intro i hi
          rw [t_dN hS, Nat.zero_testBit]; simp
        rcases hi with ⟨a1, a2, a3, a4, a5⟩ | ⟨a1, a2, a3, a4, a5⟩
        · exact ih _ _ _ _ (.inl ⟨by omega, a2, a3, a4, a5⟩)
        · exact ih _ _ _ _ (.inr ⟨a1, a2, a3, a4, fun q => a5 (by omega)⟩)
      · have e0 : f0_sumOf (1 + 17) (nI h) (nI s) σ = some (nI (ws d s.testBit 8), σ) := e0_sum hh hs hd
        have e1 := e12_sumL hh hs hm (f12_struck_L42 g) p (nI S) bR lR 8 0 z_fu (by omega) (by decide)
        have e1 : f12_struck_L81 (f12_struck_L42 g) z_fu (nI h) p (nI S) bR lR (nI s) 0 0 τ = _ := e1
        rw [if_neg hx, if_neg hx, e0, q_bnd, e1]
        unfold f12_struck_J117 f12_struck_J131 f12_struck_J147
        rw [nI_1]
        have hlt : s ≠ S → ws d s.testBit 8 < ws d S.testBit 8 := by
          intro hne
          apply ws_strict (fun i _ => dN_0 hs hsub i)
          by_cases hex : ∃ i, i < 8 ∧ s.testBit i = false ∧ S.testBit i = true
          · obtain ⟨i, i1, i2, i3⟩ := hex
            exact ⟨i, i1, i2, i3, hpos i i1 i3⟩
          · exfalso
            apply hne
            apply e_ext hs hS
            intro i hi
            cases e1 : s.testBit i <;> cases e2 : S.testBit i
            · rfl
            · exact absurd ⟨i, hi, e1, e2⟩ hex
            · have := dN_0 hs hsub i e1; rw [e2] at this; exact absurd this (by decide)
            · rfl
        have hws := hw s
        have hwS := hw S
        rcases hi with ⟨a1, a2, a3, a4, a5⟩ | ⟨a1, a2, a3, a4, a5⟩
        · have c1 : nI (ws d s.testBit 8) < lR := by rw [a5]; exact nI_lt (b := 100000) (by omega) (by omega)
          rw [if_pos c1, if_pos c1]
          by_cases hne : s = S
          · have c2 : ¬ nI (ws d s.testBit 8) < nI l := by rw [a3, hne]; exact nI_nlt (Nat.le_refl _) (by omega)
            rw [if_neg c2]
            refine ih _ _ _ _ (.inr ⟨by omega, ?_, ?_, ?_, fun q => absurd q (by omega)⟩)
            · rw [a3, a2]
            · rw [a2, hne]
            · rw [a3, hne]
          · have c2 : nI (ws d s.testBit 8) < nI l := by rw [a3]; exact nI_lt (hlt hne) (by omega)
            rw [if_pos c2]
            exact ih _ _ _ _ (.inr ⟨hs, rfl, rfl, rfl, fun _ => hlt hne⟩)
        · rw [a4]
          by_cases c : ws d s.testBit 8 < l
          · have hl : l ≤ 800 := by rw [a2]; exact hw b
            have c2 : nI (ws d s.testBit 8) < nI l := nI_lt c (by omega)
            rw [if_pos c2, if_pos c2, if_pos c2]
            exact ih _ _ _ _ (.inr ⟨hs, rfl, rfl, rfl, fun q => hlt (by omega)⟩)
          · have c2 : ¬ nI (ws d s.testBit 8) < nI l := nI_nlt (by omega) (by omega)
            rw [if_neg c2, if_neg c2, if_neg c2]
            exact ih _ _ _ _ (.inr ⟨a1, a2, a3, rfl, fun q => a5 (by omega)⟩)
    · have hsub' := k_nz hsub (Nat.lt_trans (dN_lt hs S) (by omega))
      rw [if_neg hsub', if_neg hsub']
      have hne : s ≠ S := by
        intro e
        apply hsub
        rw [e]
        apply e_ext (dN_lt hS S) (by omega)
        intro i hi
        rw [t_dN hS, Nat.zero_testBit]; simp
      rcases hi with ⟨a1, a2, a3, a4, a5⟩ | ⟨a1, a2, a3, a4, a5⟩
      · exact ih _ _ _ _ (.inl ⟨by omega, a2, a3, a4, a5⟩)
      · exact ih _ _ _ _ (.inr ⟨a1, a2, a3, a4, fun q => a5 (by omega)⟩)
/-- the degrees of a house as numbers -/
theorem G_be_d {H W h : Nat} {ob d th he te wa m : Nat → Int32} (hG : G_be H W ob d th he te wa m) (hh : h < 8) : ∃ D : Nat → Nat, ∀ t, t < 8 → D t ≤ 100 ∧ d (8 * h + t) = nI (D t) ∧ m (4 + (8 * h + t)) + 50 = nI (D t) := by
  refine ⟨fun t => z_ix (d (8 * h + t)), fun t ht => ?_⟩
  obtain ⟨e1, n, hn, e2⟩ := hG.2.2.2.1 (8 * h + t) (by omega)
  show z_ix (d (8 * h + t)) ≤ 100 ∧ d (8 * h + t) = nI (z_ix (d (8 * h + t))) ∧ _ = nI (z_ix (d (8 * h + t)))
  rw [e1, q_sub_add, e2, q_ix (by omega)]
  exact ⟨hn, rfl, rfl⟩
theorem p_struck0 : p_struck Rel0 := by
  intro p1 p2 σ τ hR
  replace hR := Rel0_told hR
  unfold f12_struck f11_struck
  rw [q_let]
  generalize z_set τ 0 0 0 = τ at hR ⊢
  have hR0 := hR
  obtain ⟨⟨H, hN, hU⟩, hI, hT, hF, hC⟩ := hR
  obtain ⟨g1, g2, g3, g4, g5, g6, g7, g8, g9, g10⟩ := hN
  have hH := g1.1
  rcases g_house hH (σ := σ) (τ := τ) g1.2.1 g1.2.2.1 p1 with ⟨c1, c2⟩ | ⟨h, hh, rfl, c1, c2⟩
  · rw [c1, c2]; exact ⟨-1, σ, τ, rfl, rfl, hR0⟩
  rw [c1, c2, q_bnd, q_bnd, i_10, i_10]
  rcases g_in p2 0 1 0 1 rfl rfl (by omega) (by omega) τ with ⟨n1 | ⟨n1, n2⟩, e⟩ | ⟨y, -, hy, rfl, n1, n2, e⟩
  · rw [if_pos n1, e]; exact ⟨-1, σ, τ, rfl, rfl, hR0⟩
  · rw [if_neg n1, if_pos n2, e]; exact ⟨-1, σ, τ, rfl, rfl, hR0⟩
  rw [if_neg n1, if_neg n2, e, q_bnd, i_10, e12_suresOf (by omega) τ (fun i hi => (g10.2.2.2.1 i hi).1), q_bnd]
  obtain ⟨n, R0, R1, R2, hr⟩ := RS_of g4
  obtain ⟨D, hD⟩ := G_be_d g10 (h := h) (by omega)
  let σ1 := z_fl σ 111 0 8 (fun t => nI (clN R0 R1 R2 n t))
  have s1 : ∀ c, c ≠ 111 → σ1 c = σ c := fun c hc => fl_ne hc
  have hr1 : RS n R0 R1 R2 σ1 τ := RS_cong hr (by rw [s1 4 (by omega)]) (s1 5 (by omega)) rfl rfl
  have d1 : ∀ t, t < 8 → D t ≤ 100 ∧ σ1 19 (8 * h + t) = nI (D t) := fun t ht => ⟨(hD t ht).1, by rw [s1 19 (by omega)]; exact (hD t ht).2.1⟩
  have hsn : sN (σ1 19) h = sN (σ 19) h := by rw [s1 19 (by omega)]
  have hpos : ∀ t, t < 8 → (sN (σ 19) h).testBit t = true → 0 < D t := by
    intro t ht hb
    rw [sN_bit ht, (hD t ht).2.1] at hb
    rcases Nat.eq_zero_or_pos (D t) with q | q
    · rw [q] at hb; exact absurd hb (by decide)
    · exact q
  obtain ⟨x, hx, x1, x2⟩ := e_struck hr1 (by omega) (sN_lt (σ 19) h) (fun t ht => by show z_fl σ 111 0 8 _ 111 t = _; rw [fl_in (by omega) (by omega), Nat.sub_zero]) d1 (fun t ht => ⟨(hD t ht).1, (hD t ht).2.2⟩) hpos (nI y) 256 0 z_fu z_fu (sN (σ 19) h) (ws D (sN (σ 19) h).testBit 8) (-1) 100000 (by omega) (by decide) (by decide) (.inl ⟨by omega, rfl, rfl, rfl, rfl⟩)
  have hc : f6_toStrike 1 (nI h) σ = some (nI x, σ1) := by
    unfold f6_toStrike
    have k1 : f6_findClashes (1 + 3) σ = some ((), σ1) := e6_clashes hr
    have k2 : f0_sureOf (1 + 17) (nI h) σ1 = some (nI (sN (σ 19) h), σ1) := by
      have := e0_sureOf (c0 := 18) (h := h) (by omega) σ1
      rw [← hsn]; exact this
    have k3 : f0_sumOf (1 + 17) (nI h) (nI (sN (σ 19) h)) σ1 = some (nI (ws D (sN (σ 19) h).testBit 8), σ1) := e0_sum (by omega) (sN_lt _ _) d1
    rw [k1, q_bnd, k2, q_bnd, k3, q_bnd]
    exact x1
  have x2 : f12_struck_L42 z_fu (nI h) (nI y) (nI (sN (σ 19) h)) (-1) 100000 0 τ = _ := x2
  rw [hc, q_bnd]
  have hrel : Rel0 σ1 τ := Rel0_frame2 hR0 (fun c hc => s1 c (by omega)) (by rw [s1 50 (by omega)]) (by rw [s1 51 (by omega)]) (fun _ _ => rfl) (fun _ _ => rfl)
  refine ⟨_, σ1, τ, ?_, x2, hrel⟩
  rcases (show y = 0 ∨ y = 1 by omega) with rfl | rfl
  · have k4 : f0_sumOf 18 (nI h) (nI x) σ1 = some (nI (ws D x.testBit 8), σ1) := e0_sum (by omega) hx d1
    rw [if_neg (by decide), k4, q_bnd, if_pos nI_0]
  · rw [if_pos (show nI 1 = 1 from rfl), if_neg (by decide)]
