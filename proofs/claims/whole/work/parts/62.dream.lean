/-! thoughts: first, waters -/
theorem e12_thinksL (τ : z_M) : ∀ (r k n : Nat), k + r = 100 → r < n → f12_thinks_L2 n (nI k) (z_fl τ 3 0 k (τ 1)) = some ((), z_set (z_fl τ 3 0 100 (τ 1)) 0 5 1)
  | 0, k, n, hk, hn => by
    obtain ⟨m, rfl⟩ : ∃ m, n = m + 1 := ⟨n - 1, by omega⟩
    obtain rfl : k = 100 := by omega
    unfold f12_thinks_L2 f12_thinks_J26
    rw [l_100, if_neg (nI_nlt (by omega) (by omega)), q_let]
  | r + 1, k, n, hk, hn => by
    obtain ⟨m, rfl⟩ : ∃ m, n = m + 1 := ⟨n - 1, by omega⟩
    unfold f12_thinks_L2
    rw [l_100, if_pos (nI_lt (by omega) (by omega)), fl_ne (show 1 ≠ 3 by omega), k_cin _ (by omega) (by omega), k_cin _ (by omega) (by omega), q_ix (by omega), q_let, fl_s (by omega) rfl, nI_1]
    exact e12_thinksL τ r (k + 1) m (by omega) (by omega)
theorem e12_thinks (τ : z_M) : f12_thinks τ = some ((), z_set (z_fl τ 3 0 100 (τ 1)) 0 5 1) := by
  have a := e12_thinksL τ 100 0 z_fu (by omega) (by decide)
  rw [fl_0] at a
  exact a
theorem e12_anewL (τ : z_M) : ∀ (r k n : Nat), k + r = 100 → r < n → f12_thinksAnew_L2 n (nI k) (z_fl τ 1 0 k (τ 3)) = some ((), z_fl τ 1 0 100 (τ 3))
  | 0, k, n, hk, hn => by
    obtain ⟨m, rfl⟩ : ∃ m, n = m + 1 := ⟨n - 1, by omega⟩
    obtain rfl : k = 100 := by omega
    unfold f12_thinksAnew_L2
    rw [l_100, if_neg (nI_nlt (by omega) (by omega))]
  | r + 1, k, n, hk, hn => by
    obtain ⟨m, rfl⟩ : ∃ m, n = m + 1 := ⟨n - 1, by omega⟩
    unfold f12_thinksAnew_L2
    rw [l_100, if_pos (nI_lt (by omega) (by omega)), fl_ne (show 3 ≠ 1 by omega), k_cin _ (by omega) (by omega), k_cin _ (by omega) (by omega), q_ix (by omega), q_let, fl_s (by omega) rfl, nI_1]
    exact e12_anewL τ r (k + 1) m (by omega) (by omega)
theorem e12_anew (τ : z_M) : f12_thinksAnew τ = some ((), z_fl τ 1 0 100 (τ 3)) := by
  have a := e12_anewL τ 100 0 z_fu (by omega) (by decide)
  rw [fl_0] at a
  exact a
/-- scratch of thoughts alone has changed: the relation holds -/
theorem Rel0_dream {σ τ σ' τ' : z_M} (h : Rel0 σ τ) (f1 : ∀ c, c ≠ 48 → c ≠ 49 → c < 52 ∨ 57 < c → σ' c = σ c) (f2 : ∀ c, c ≠ 0 → c ≠ 1 → c ≠ 3 → c ≠ 20 → c ≠ 21 → τ' c = τ c) (f3 : ∀ k, k < 100 → τ' 1 k = τ 1 k) (f4 : ∀ k, k ≠ 44 → τ' 0 k = τ 0 k) : Rel0 σ' τ' := by
  have h0 := h
  obtain ⟨⟨H, hN, hU⟩, -⟩ := h
  have hN0 := hN
  obtain ⟨g1, g2, g3, g4, g5, g6, g7, g8, g9, g10⟩ := hN
  refine Rel0_beds h0 hN0 (R_und_cong hU (fun c a b => f1 c (by omega) (by omega) (by omega)) (f2 2 (by omega) (by omega) (by omega) (by omega) (by omega)) (f4 3 (by omega))) ?_ ?_ (fun c hc => f1 c (by omega) (by omega) (by omega)) (fun c a1 a2 a3 a4 a5 a6 a7 => f2 c a1 a2 a4 (by omega) (by omega)) (fun k a b => f4 k b)
  · rw [f1 18 (by omega) (by omega) (by omega), f1 19 (by omega) (by omega) (by omega), f1 20 (by omega) (by omega) (by omega), f1 21 (by omega) (by omega) (by omega), f1 22 (by omega) (by omega) (by omega), f1 23 (by omega) (by omega) (by omega)]
    exact G_be_cong g10 (fun _ _ _ => rfl) (fun _ _ => rfl) (fun _ _ => ⟨rfl, rfl, rfl, rfl⟩) f3
  · rw [f1 17 (by omega) (by omega) (by omega), f2 6 (by omega) (by omega) (by omega) (by omega) (by omega)]; exact g9
/-- a thought begins: the class's dream beds, the reference's own row -/
theorem e_asleep {H W : Nat} {σ τ τ' : z_M} (hB : SB 18 H W σ τ) (hG : SG H σ τ) (h51 : σ 51 3 = 0) (e5 : τ' 0 5 = 1) (f0 : ∀ k, k ≠ 5 → k ≠ 44 → τ' 0 k = τ 0 k) (f1 : ∀ k, k < 100 → τ' 1 k = τ 1 k) (f2 : ∀ c, c ≠ 0 → c ≠ 1 → c ≠ 3 → c ≠ 20 → c ≠ 21 → τ' c = τ c) : ∃ σ', f7_fallAsleep 51 σ = some ((), σ') ∧ (∀ c, c < 52 ∨ 57 < c → σ' c = σ c) ∧ SA 51 52 σ' τ' ∧ SB 52 H W σ' τ' ∧ SG H σ' τ' ∧ (∀ k, k < 8 → σ' 54 k = σ 20 k) ∧ σ' 52 6 = σ 18 6 := by
  obtain ⟨σ', e1, e2, e3⟩ := e0_copy (b := 52) (c := 18) (by omega) σ
  have e2' : ∀ c, c < 52 ∨ 57 < c → σ' c = σ c := fun c hc => e2 c (by omega)
  refine ⟨σ', ?_, e2', .inr ⟨rfl, rfl, by rw [e2' 51 (by omega)]; exact h51, e5⟩, ?_, ?_, fun k hk => (e3.2.2 k hk).1, e3.1 6 (by omega) (by omega)⟩
  · unfold f7_fallAsleep
    rw [show z_sb 51 = 52 from rfl, e1, q_bnd]
  · exact G_be_cong hB e3.1 e3.2.1 e3.2.2 f1
  · obtain ⟨g1, g2, g3, g4, g5⟩ := hG
    refine ⟨?_, ?_, ?_, LG_cong g4 (fun c a b => e2' c (by omega)) (fun c a b => f2 c (by omega) (by omega) (by omega) (by omega) (by omega)), ?_⟩
    · rw [e2' 1 (by omega), f0 6 (by omega) (by omega), f0 7 (by omega) (by omega), f0 8 (by omega) (by omega), f0 9 (by omega) (by omega)]; exact g1
    · rw [e2' 3 (by omega), f2 5 (by omega) (by omega) (by omega) (by omega) (by omega)]; exact g2
    · rw [e2' 4 (by omega), e2' 5 (by omega), f0 36 (by omega) (by omega), f2 17 (by omega) (by omega) (by omega) (by omega) (by omega)]; exact g3
    · rw [e2' 13 (by omega), e2' 14 (by omega), f0 40 (by omega) (by omega), f2 19 (by omega) (by omega) (by omega) (by omega) (by omega)]; exact g5
/-- first: the weeks in thought -/
theorem e_firstL {H n w A0 : Nat} {B : Int32} (hw : w ≤ 999) (hn : n ≤ 60) (p : Int32) (hp : p = 0 ∨ p = 1 ∨ p = 2) : ∀ (r i f g A W : Nat) (hs wk : Int32) (σ τ : z_M), i + r = n → r < f → r < g → SA 51 52 σ τ → SB 52 H W σ τ → SG H σ τ → σ 18 6 = nI w → σ 52 6 = nI (w + i) → τ 3 3 = B → τ 1 3 = B + nI A → A ≤ 8 * i → (A = 0 ↔ hs = -1) → ∃ x σ' τ', f11_first_L40 f (nI n) p hs wk (nI A) (nI i) σ = some (x, σ') ∧ f12_first_L40 g (nI n) p hs wk (nI i) τ = some (x, τ') ∧ (∀ c, c ≠ 48 → c ≠ 49 → c < 52 ∨ 57 < c → σ' c = σ c) ∧ (∀ c, c ≠ 0 → c ≠ 1 → c ≠ 20 → c ≠ 21 → τ' c = τ c) ∧ (∀ k, k < 100 → τ' 1 k = τ 3 k) ∧ (∀ k, k ≠ 5 → k ≠ 44 → τ' 0 k = τ 0 k) ∧ τ' 0 5 = 0
  | 0, i, f, g, A, W, hs, wk, σ, τ, h1, h2, h3, hA, hB, hG, e18, e52, e3, e13, hA8, hiff => by
    obtain ⟨f, rfl⟩ : ∃ m, f = m + 1 := ⟨f - 1, by omega⟩
    obtain ⟨g, rfl⟩ : ∃ m, g = m + 1 := ⟨g - 1, by omega⟩
    refine ⟨if p = 2 then nI A else if p = 0 then hs else wk, σ, z_set (z_fl τ 1 0 100 (τ 3)) 0 5 0, ?_, ?_, fun _ _ _ _ => rfl, fun c a1 a2 a3 a4 => ?_, fun k hk => ?_, fun k a b => ?_, s_eq⟩
    · unfold f11_first_L40 f11_first_J101
      rw [if_neg (nI_nlt (by omega) (by omega))]
      split
      · rfl
      · split <;> rfl
    · unfold f12_first_L40 f12_first_J87 f12_endsThought
      rw [if_neg (nI_nlt (by omega) (by omega)), q_chk _ (by decide), q_chk _ (by decide), e12_anew, q_bnd, q_let, q_bnd, show z_ix 3 = 3 from rfl, e13, e3, Int32.add_comm, q_add_sub]
      rcases hp with rfl | rfl | rfl <;> rfl
    · rw [s_ne a1, fl_ne a2]
    · rw [s_ne (by omega), fl_in (by omega) (by omega), Nat.sub_zero]
    · rw [s_kn a, fl_ne (by omega)]
  | r + 1, i, f, g, A, W, hs, wk, σ, τ, h1, h2, h3, hA, hB, hG, e18, e52, e3, e13, hA8, hiff => by
    obtain ⟨f, rfl⟩ : ∃ m, f = m + 1 := ⟨f - 1, by omega⟩
    obtain ⟨g, rfl⟩ : ∃ m, g = m + 1 := ⟨g - 1, by omega⟩
    obtain ⟨c, σ1, τ1, c8, x1, x2, x3, x4, x5, x6, x7⟩ := e_pass hA hB hG
    have hG1 := SG_fr (.inr rfl) hG x3.2.2
    obtain ⟨f1, f2, f3, f4⟩ := x3.2.2
    have y18 : σ1 18 6 = nI w := by rw [f1 18 (by omega) (by omega) (by omega) (by omega)]; exact e18
    have y52 : σ1 52 6 = nI (w + (i + 1)) := by rw [x5, e52, nI_1, Nat.add_assoc]
    have y3 : τ1 3 3 = B := by rw [f3 3 (by omega) (by omega) (by omega) (by omega) (by omega)]; exact e3
    have y13 : τ1 1 3 = B + nI (A + c) := by rw [x4, e13, Int32.add_assoc, nI_add]
    have yw : τ1 1 0 - 1 = nI (w + i) := by rw [x3.2.1.1.1, x5, e52, q_add_sub]
    have ih := fun hs' wk' hq => e_firstL (H := H) (n := n) (w := w) (A0 := A0) (B := B) hw hn p hp r (i + 1) f g (A + c) (W + 1) hs' wk' σ1 τ1 (by omega) (by omega) (by omega) x3.1 x3.2.1 hG1 y18 y52 y3 y13 (by omega) hq
    have wrap : ∀ {hs' wk'}, (A + c = 0 ↔ hs' = -1) → f11_first_L40 (f + 1) (nI n) p hs wk (nI A) (nI i) σ = f11_first_L40 f (nI n) p hs' wk' (nI (A + c)) (nI (i + 1)) σ1 → f12_first_L40 (g + 1) (nI n) p hs wk (nI i) τ = f12_first_L40 g (nI n) p hs' wk' (nI (i + 1)) τ1 → ∃ x σ' τ', f11_first_L40 (f + 1) (nI n) p hs wk (nI A) (nI i) σ = some (x, σ') ∧ f12_first_L40 (g + 1) (nI n) p hs wk (nI i) τ = some (x, τ') ∧ (∀ c, c ≠ 48 → c ≠ 49 → c < 52 ∨ 57 < c → σ' c = σ c) ∧ (∀ c, c ≠ 0 → c ≠ 1 → c ≠ 20 → c ≠ 21 → τ' c = τ c) ∧ (∀ k, k < 100 → τ' 1 k = τ 3 k) ∧ (∀ k, k ≠ 5 → k ≠ 44 → τ' 0 k = τ 0 k) ∧ τ' 0 5 = 0 := by
      intro hs' wk' hq q1 q2
      obtain ⟨x, σ', τ', z1, z2, z3, z4, z5, z6, z7⟩ := ih hs' wk' hq
      refine ⟨x, σ', τ', q1.trans z1, q2.trans z2, fun c a b d => (z3 c a b d).trans ?_, fun c a b d e => (z4 c a b d e).trans ?_, fun k hk => (z5 k hk).trans ?_, fun k a b => (z6 k a b).trans (f4 k b), z7⟩
      · by_cases c17 : c = 17
        · rw [c17]; exact (f2 rfl).1
        · exact f1 c (by omega) c17 a b
      · by_cases c6 : c = 6
        · rw [c6]; exact (f2 rfl).2
        · exact f3 c a b c6 d e
      · rw [f3 3 (by omega) (by omega) (by omega) (by omega) (by omega)]
    by_cases hc0 : c = 0
    · have h44 := x7.mp hc0
      have q1 : ¬ (0 : Int32) < nI c := k_ngt (by omega)
      refine wrap (hs' := hs) (wk' := wk) (by rw [hc0]; exact hiff) ?_ ?_
      · conv => lhs; unfold f11_first_L40
        unfold f11_first_J88
        rw [if_pos (nI_lt (by omega) (by omega)), x1, q_bnd, if_neg q1, nI_add, nI_1]
      · conv => lhs; unfold f12_first_L40
        rw [if_pos (nI_lt (by omega) (by omega)), x2, q_bnd, h44, if_pos rfl, nI_1]
        split <;> rfl
    · have h44 : ¬ τ1 0 44 = -1 := fun q => hc0 (x7.mpr q)
      have q1 : (0 : Int32) < nI c := k_gt (by omega) (by omega)
      by_cases hA0 : A = 0
      · have hs1 := hiff.mp hA0
        refine wrap (hs' := τ1 0 44) (wk' := nI (w + i)) ⟨fun q => absurd q (by omega), fun q => absurd q h44⟩ ?_ ?_
        · conv => lhs; unfold f11_first_L40
          unfold f11_first_J88
          rw [if_pos (nI_lt (by omega) (by omega)), x1, q_bnd, if_pos q1, if_pos (k_z hA0), x6, q_bnd, nI_add, nI_1, y18, nI_add]
        · conv => lhs; unfold f12_first_L40
          rw [if_pos (nI_lt (by omega) (by omega)), x2, q_bnd, if_pos hs1, if_neg h44, q_chk _ (by decide), show z_ix 0 = 0 from rfl, yw, nI_1]
      · have hs1 : ¬ hs = -1 := fun q => hA0 (hiff.mpr q)
        refine wrap (hs' := hs) (wk' := wk) ⟨fun q => absurd q (by omega), fun q => absurd q hs1⟩ ?_ ?_
        · conv => lhs; unfold f11_first_L40
          unfold f11_first_J88
          rw [if_pos (nI_lt (by omega) (by omega)), x1, q_bnd, if_pos q1, if_neg (k_nz hA0 (by omega)), nI_add, nI_1]
        · conv => lhs; unfold f12_first_L40
          rw [if_pos (nI_lt (by omega) (by omega)), x2, q_bnd, if_neg hs1, nI_1]
theorem p_first0 : p_first Rel0 := by
  intro p1 p2 σ τ hR
  replace hR := Rel0_told hR
  unfold f12_first f11_first
  rw [q_let]
  generalize z_set τ 0 0 0 = τ at hR ⊢
  have hR0 := hR
  obtain ⟨⟨H, hN, hU⟩, hI, hT, hF, hC⟩ := hR
  have hG := R_now_SG hN
  obtain ⟨g1, g2, g3, g4, g5, g6, g7, g8, g9, g10⟩ := hN
  obtain ⟨w, hw, ew⟩ := g10.2.1
  have ew : σ 18 6 = nI w := ew
  rcases g_in p1 1 60 1 60 rfl rfl (by omega) (by omega) τ with ⟨n1 | ⟨n1, n2⟩, e⟩ | ⟨n, hn1, hn, rfl, n1, n2, e⟩
  · rw [if_pos n1, e]; exact ⟨-1, σ, τ, rfl, rfl, hR0⟩
  · rw [if_neg n1, if_pos n2, e]; exact ⟨-1, σ, τ, rfl, rfl, hR0⟩
  rw [if_neg n1, if_neg n2, e, q_bnd, i_10]
  rcases g_in p2 0 2 0 2 rfl rfl (by omega) (by omega) τ with ⟨n1 | ⟨n1, n2⟩, e⟩ | ⟨y, -, hy, rfl, n1, n2, e⟩
  · rw [if_pos n1, e]; exact ⟨-1, σ, τ, rfl, rfl, hR0⟩
  · rw [if_neg n1, if_pos n2, e]; exact ⟨-1, σ, τ, rfl, rfl, hR0⟩
  rw [if_neg n1, if_neg n2, e, q_bnd, i_10, e12_thinks, q_bnd]
  have hp : nI y = 0 ∨ nI y = 1 ∨ nI y = 2 := by
    rcases (show y = 0 ∨ y = 1 ∨ y = 2 by omega) with rfl | rfl | rfl
    · exact .inl rfl
    · exact .inr (.inl rfl)
    · exact .inr (.inr rfl)
  let τ1 := z_set (z_fl τ 3 0 100 (τ 1)) 0 5 1
  obtain ⟨σ1, a1, a2, a3, a4, a5, a6, a7⟩ := e_asleep (τ' := τ1) g10 hG hC.2.1 s_eq (fun k a b => by show z_set _ 0 5 1 0 k = _; rw [s_kn a, fl_ne (by omega)]) (fun k hk => by show z_set _ 0 5 1 1 k = _; rw [s_ne (by omega), fl_ne (by omega)]) (fun c a b d _ _ => by show z_set _ 0 5 1 c = _; rw [s_ne a, fl_ne d])
  rw [a1, q_bnd]
  have t31 : ∀ k, k < 100 → τ1 3 k = τ 1 k := fun k hk => by
    show z_set _ 0 5 1 3 k = _
    rw [s_ne (by omega), fl_in (by omega) (by omega), Nat.sub_zero]
  have t11 : τ1 1 = τ 1 := by
    show z_set _ 0 5 1 1 = _
    rw [s_ne (by omega), fl_ne (by omega)]
  obtain ⟨x, σ', τ', z1, z2, z3, z4, z5, z6, z7⟩ := e_firstL (H := H) (n := n) (w := w) (A0 := 0) (B := τ 1 3) hw hn (nI y) hp n 0 z_fu z_fu 0 999 (-1) (-1) σ1 τ1 (by omega) (show n < 1000 by omega) (show n < 1000 by omega) a3 a4 a5 (by rw [a2 18 (by omega)]; exact ew) (by rw [a7]; exact ew) (t31 3 (by omega)) (by rw [t11, show nI 0 = (0 : Int32) from rfl, Int32.add_zero]) (by omega) ⟨fun _ => rfl, fun _ => rfl⟩
  have z1 : f11_first_L40 z_fu (nI n) (nI y) (-1) (-1) 0 0 σ1 = some (x, σ') := z1
  have z2 : f12_first_L40 z_fu (nI n) (nI y) (-1) (-1) 0 τ1 = some (x, τ') := z2
  refine ⟨x, σ', τ', z1, z2, Rel0_dream hR0 (fun c a b d => (z3 c a b d).trans (a2 c d)) (fun c a b d e f => ?_) (fun k hk => (z5 k hk).trans (t31 k hk)) (fun k hk => ?_)⟩
  · rw [z4 c a b e f]
    show z_set _ 0 5 1 c = _
    rw [s_ne a, fl_ne d]
  · by_cases k5 : k = 5
    · rw [k5, z7]; exact hC.2.2.1.symm
    · rw [z6 k k5 hk]
      show z_set _ 0 5 1 0 k = _
      rw [s_kn k5, fl_ne (by omega)]
