/-! a change of what the relation does not look at; house, look, feed -/
theorem G_all_frame {H g : Nat} {σ σ' : z_M} {row sc sto lin tH tT tW rea wor pla boo : Nat → Int32} {lm : Int32} {lW lF lN lT op ar : Nat → Int32} (h : G_all H σ g row sc sto lin tH tT tW rea wor pla boo lm lW lF lN lT op ar) (e : ∀ c, g ≤ c → c ≤ g + 22 → σ' c = σ c) : G_all H σ' g row sc sto lin tH tT tW rea wor pla boo lm lW lF lN lT op ar := by
  unfold G_all at h ⊢
  rw [e g (by omega) (by omega), e (g + 1) (by omega) (by omega), e (g + 2) (by omega) (by omega), e (g + 3) (by omega) (by omega), e (g + 4) (by omega) (by omega), e (g + 6) (by omega) (by omega), e (g + 7) (by omega) (by omega), e (g + 8) (by omega) (by omega), e (g + 9) (by omega) (by omega), e (g + 10) (by omega) (by omega), e (g + 12) (by omega) (by omega), e (g + 13) (by omega) (by omega), e (g + 15) (by omega) (by omega), e (g + 16) (by omega) (by omega), e (g + 17) (by omega) (by omega), e (g + 18) (by omega) (by omega), e (g + 19) (by omega) (by omega), e (g + 20) (by omega) (by omega), e (g + 21) (by omega) (by omega), e (g + 22) (by omega) (by omega)]
  exact h
def K_m (c : Nat) : Prop := (1 ≤ c ∧ c ≤ 2) ∨ (4 ≤ c ∧ c ≤ 6) ∨ (8 ≤ c ∧ c ≤ 15) ∨ (17 ≤ c ∧ c ≤ 19) ∨ (29 ≤ c ∧ c ≤ 31) ∨ c = 33
def K_0 (k : Nat) : Prop := k = 3 ∨ (5 ≤ k ∧ k ≤ 9) ∨ k = 36 ∨ k = 38 ∨ k = 40 ∨ k = 52 ∨ k = 58
theorem Rel0_frame {σ τ σ' τ' : z_M} (h : Rel0 σ τ) (hσ : ∀ c, c ≤ 46 ∨ (58 ≤ c ∧ c ≤ 95) → σ' c = σ c) (h50 : σ' 50 3 = σ 50 3) (h51 : σ' 51 3 = σ 51 3) (hτ : ∀ c, K_m c → τ' c = τ c) (h0 : ∀ k, K_0 k → τ' 0 k = τ 0 k) (hT : R_tap σ' τ') (hF : σ' 101 2 = τ' 0 34 ∧ σ' 101 3 = τ' 0 35) : Rel0 σ' τ' := by
  obtain ⟨⟨H, hN, hU⟩, hI, -, -, hC⟩ := h
  have t1 := hτ 1 (by unfold K_m; omega)
  have t2 := hτ 2 (by unfold K_m; omega)
  have t4 := hτ 4 (by unfold K_m; omega)
  have t5 := hτ 5 (by unfold K_m; omega)
  have t6 := hτ 6 (by unfold K_m; omega)
  have t8 := hτ 8 (by unfold K_m; omega)
  have t9 := hτ 9 (by unfold K_m; omega)
  have t10 := hτ 10 (by unfold K_m; omega)
  have t11 := hτ 11 (by unfold K_m; omega)
  have t12 := hτ 12 (by unfold K_m; omega)
  have t13 := hτ 13 (by unfold K_m; omega)
  have t14 := hτ 14 (by unfold K_m; omega)
  have t15 := hτ 15 (by unfold K_m; omega)
  have t17 := hτ 17 (by unfold K_m; omega)
  have t18 := hτ 18 (by unfold K_m; omega)
  have t19 := hτ 19 (by unfold K_m; omega)
  have t29 := hτ 29 (by unfold K_m; omega)
  have t30 := hτ 30 (by unfold K_m; omega)
  have t31 := hτ 31 (by unfold K_m; omega)
  have t33 := hτ 33 (by unfold K_m; omega)
  have hm : m_sc τ' = m_sc τ := by
    unfold m_sc
    rw [h0 6 (by unfold K_0; omega), h0 7 (by unfold K_0; omega), h0 8 (by unfold K_0; omega), h0 9 (by unfold K_0; omega), h0 36 (by unfold K_0; omega), h0 38 (by unfold K_0; omega), h0 40 (by unfold K_0; omega), h0 52 (by unfold K_0; omega)]
  refine ⟨⟨H, ?_, ?_⟩, ?_, hT, hF, ?_⟩
  · unfold R_now
    rw [t1, hm, t4, t5, t29, t30, t31, t17, t18, t19, t6, t9, t10, t11, t12, t13, t14, t15]
    exact G_all_frame hN (fun c h1 h2 => hσ c (by omega))
  · exact R_und_cong hU (fun c h1 h2 => hσ c (by omega)) t2 (h0 3 (by unfold K_0; omega))
  · unfold R_img at hI ⊢
    rw [t33, hσ 0 (by omega), h0 58 (by unfold K_0; omega)]
    refine ⟨hI.1, hI.2.imp id (fun q => ⟨q.1, ?_⟩)⟩
    obtain ⟨H', q2⟩ := q.2
    exact ⟨H', G_all_frame q2 (fun c h1 h2 => hσ c (by omega))⟩
  · rw [h50, h51, h0 5 (by unfold K_0; omega), t8, hσ 4 (by omega), hσ 10 (by omega), hσ 13 (by omega), hσ 27 (by omega), hσ 33 (by omega), hσ 36 (by omega)]; exact hC
/-- the same, the tape and the fault untouched -/
theorem Rel0_frame2 {σ τ σ' τ' : z_M} (h : Rel0 σ τ) (hσ : ∀ c, c ≤ 46 ∨ (58 ≤ c ∧ c ≤ 97) ∨ c = 101 → σ' c = σ c) (h50 : σ' 50 3 = σ 50 3) (h51 : σ' 51 3 = σ 51 3) (hτ : ∀ c, K_m c ∨ c = 7 → τ' c = τ c) (h0 : ∀ k, K_0 k ∨ k = 14 ∨ k = 34 ∨ k = 35 → τ' 0 k = τ 0 k) : Rel0 σ' τ' := by
  refine Rel0_frame h (fun c hc => hσ c (by omega)) h50 h51 (fun c hc => hτ c (.inl hc)) (fun k hk => h0 k (.inl hk)) ?_ ?_
  · obtain ⟨n, t1, t2, t3, t4⟩ := h.2.2.1
    refine ⟨n, t1, ?_, ?_, ?_⟩
    · rw [hσ 96 (by omega)]; exact t2
    · rw [h0 14 (by omega)]; exact t3
    · rw [hσ 97 (by omega), hτ 7 (by omega)]; exact t4
  · rw [hσ 101 (by omega), h0 34 (by omega), h0 35 (by omega)]; exact h.2.2.2.1
/-- house -/
theorem e12_degreeBe {h t : Nat} (hh : h < 8) (ht : t < 8) (v : Int32) (τ : z_M) : f12_degreeBe (nI h) (nI t) v τ = some ((), z_set τ 1 (4 + (8 * h + t)) (v - 50)) := by
  unfold f12_degreeBe
  rw [l_4, l_8, pk_mul, nI_add, nI_add, k_cin _ (by omega) (by omega), q_ix (by omega), q_let, Nat.add_assoc]
theorem e12_houseL23 {H : Nat} (hH : H < 8) (τ : z_M) (h0 : ∀ t, t < 8 → τ 1 (4 + (8 * H + t)) = 0) : ∀ (r k n : Nat), k + r = 8 → r < n → f12_house_L23 n (nI H) (nI k) τ = f12_house_J43 (nI H) τ
  | 0, k, n, hk, hn => by
    obtain ⟨m, rfl⟩ : ∃ m, n = m + 1 := ⟨n - 1, by omega⟩
    unfold f12_house_L23
    rw [l_8, if_neg (nI_nlt (by omega) (by omega))]
  | r + 1, k, n, hk, hn => by
    obtain ⟨m, rfl⟩ : ∃ m, n = m + 1 := ⟨n - 1, by omega⟩
    unfold f12_house_L23
    rw [l_8, if_pos (nI_lt (by omega) (by omega)), e12_degreeBe hH (by omega), q_bnd, show (50 : Int32) - 50 = 0 from rfl, k_set_same (h0 k (by omega)), nI_1]
    exact e12_houseL23 hH τ h0 r (k + 1) m (by omega) (by omega)
theorem b_and_lo : ∀ n, n < 256 → ∀ j, j < 8 → n < 2 ^ j → n &&& (255 - 2 ^ j) = n := by decide +kernel
theorem e12_houseL55 {H : Nat} (hH : H < 8) (τ : z_M) (h0 : ∀ i, i < 8 → ∃ n, n < 2 ^ H ∧ τ 5 i = nI n) : ∀ (r k n : Nat), k + r = 8 → r < n → f12_house_L55 n (nI H) (nI k) τ = f12_house_J85 (nI H) τ
  | 0, k, n, hk, hn => by
    obtain ⟨m, rfl⟩ : ∃ m, n = m + 1 := ⟨n - 1, by omega⟩
    unfold f12_house_L55
    rw [l_8, if_neg (nI_nlt (by omega) (by omega))]
  | r + 1, k, n, hk, hn => by
    obtain ⟨m, rfl⟩ : ∃ m, n = m + 1 := ⟨n - 1, by omega⟩
    obtain ⟨x, hx, ex⟩ := h0 k (by omega)
    have hp : 2 ^ H ≤ 256 := b_pow8 (by omega)
    unfold f12_house_L55
    rw [l_8, if_pos (nI_lt (by omega) (by omega)), k_cin _ (by omega) (by omega), k_cin _ (by omega) (by omega), q_ix (by omega), q_let, ex, b_and8 x (by omega) H hH, b_and_lo x (by omega) H hH hx, k_set_same ex, nI_1]
    exact e12_houseL55 hH τ h0 r (k + 1) m (by omega) (by omega)
theorem G_be_H {H H' W : Nat} {ob d th he te wa m : Nat → Int32} (h : G_be H W ob d th he te wa m) (hH : H ≤ H') : G_be H' W ob d th he te wa m := by
  obtain ⟨b1, c1, c2, c3, c4, c5⟩ := h
  refine ⟨b1, c1, c2, c3, fun h hh => ⟨(c4 h hh).1, (c4 h hh).2.imp id (fun q => ⟨by omega, q.2⟩)⟩, fun h t h1 h2 h3 => c5 h t (by omega) h2 h3⟩
theorem G_li_H {H H' : Nat} {s m : Nat → Int32} (h : G_li H s m) (hH : H ≤ H') : G_li H' s m := by
  intro i hi
  obtain ⟨e, n, hn, en, ez⟩ := h i hi
  exact ⟨e, n, Nat.lt_of_lt_of_le hn (Nat.pow_le_pow_right (by omega) hH), en, fun q => ez (by omega)⟩
theorem G_wo_H {H H' : Nat} {ln mn : Int32} {ce mr : Nat → Int32} (h : G_wo H ln mn ce mr) (hH : H ≤ H') : G_wo H' ln mn ce mr := by
  obtain ⟨n, hn, e1, e2, hl⟩ := h
  refine ⟨n, hn, e1, e2, fun i hi => ?_⟩
  obtain ⟨a, ⟨x, hx, ex⟩, b⟩ := hl i hi
  exact ⟨a, ⟨x, by omega, ex⟩, b⟩
theorem G_pl_H {H H' : Nat} {ln mn : Int32} {ce mr : Nat → Int32} (h : G_pl H ln mn ce mr) (hH : H ≤ H') : G_pl H' ln mn ce mr := by
  obtain ⟨n, hn, e1, e2, hl⟩ := h
  refine ⟨n, hn, e1, e2, fun i hi => ?_⟩
  obtain ⟨a, w, ⟨x, hx, ex⟩, b⟩ := hl i hi
  exact ⟨a, w, ⟨x, by omega, ex⟩, b⟩
theorem p_house0 : p_house Rel0 := by
  intro σ τ hR
  replace hR := Rel0_told hR
  unfold f12_house
  rw [q_let]
  generalize z_set τ 0 0 0 = τ at hR ⊢
  have hR0 := hR
  obtain ⟨⟨H, hN, hU⟩, hI, hT, hF, hC⟩ := hR
  obtain ⟨g1, g2, g3, g4, g5, g6, g7, g8, g9, g10⟩ := hN
  have eh : σ 1 0 = nI H := g1.2.1
  have ehm : τ 0 6 = nI H := g1.2.2.1
  have hH := g1.1
  by_cases h8 : H = 8
  · subst h8
    refine ⟨-1, σ, τ, ?_, ?_, hR0⟩
    · unfold f11_house; rw [eh, l_8, if_neg (nI_nlt (by omega) (by omega))]
    · rw [ehm, l_8, if_pos rfl]
  · have hlt : H < 8 := by omega
    have hd : ∀ t, t < 8 → τ 1 (4 + (8 * H + t)) = 0 := fun t ht => by
      have h1 := (g10.2.2.2.1 (8 * H + t) (by omega)).1
      have h2 : σ 19 (8 * H + t) = 50 := g10.2.2.2.2.2 H t (by omega) hlt ht
      rw [h1]
      show σ 19 (8 * H + t) - 50 = 0
      rw [h2]; rfl
    have hp : τ 1 (68 + H) = 0 := by
      have h1 := g10.2.2.2.2.1 H hlt
      rcases h1.2 with q | q
      · rw [h1.1, q.1]; rfl
      · omega
    have hl : ∀ i, i < 8 → ∃ n, n < 2 ^ H ∧ τ 5 i = nI n := fun i hi => by
      obtain ⟨e, n, hn, en, -⟩ := g3 i hi
      exact ⟨n, hn, e.trans en⟩
    have hl0 : τ 5 H = 0 := by
      obtain ⟨e, n, hn, en, ez⟩ := g3 H hlt
      rw [e, en, ez (by omega)]; rfl
    refine ⟨nI H, z_set (z_set σ 58 2 0) 1 0 (nI (H + 1)), z_set (z_set τ 0 6 (nI (H + 1))) 0 3 0, ?_, ?_, ⟨H + 1, ⟨⟨by omega, rfl, rfl, g1.2.2.2⟩, g2, G_li_H g3 (by omega), g4, g5, G_wo_H g6 (by omega), G_pl_H g7 (by omega), g8, g9, G_be_H g10 (by omega)⟩, R_und_none (σ' := z_set (z_set σ 58 2 0) 1 0 (nI (H + 1))) (τ' := z_set (z_set τ 0 6 (nI (H + 1))) 0 3 0) hU rfl rfl rfl⟩, hI, hT, hF, hC⟩
    · unfold f11_house f10_forget
      rw [eh, l_8, if_pos (nI_lt hlt (by omega)), q_let, q_bnd, q_let]
      show some (σ 1 0 + 1 - 1, z_set (z_set σ 58 2 0) 1 0 (σ 1 0 + 1)) = _
      rw [eh, q_add_sub, nI_1]
    · rw [ehm, l_8, if_neg (by rw [nI_eq (by omega) (by omega)]; omega), l_0, e12_houseL23 hlt τ hd 8 0 z_fu rfl (by decide)]
      unfold f12_house_J43
      rw [l_68, nI_add, k_cin _ (by omega) (by omega), q_ix (by omega), q_let, k_set_same hp, l_0, e12_houseL55 hlt τ hl 8 0 z_fu rfl (by decide)]
      unfold f12_house_J85
      rw [k_cin _ hlt (by omega), q_ix (by omega), q_let, k_set_same hl0, q_let, q_let, ehm, nI_1]
      rfl
/-- look -/
theorem e_pots {H : Nat} {σ τ : z_M} (hH : H ≤ 8) (eh : σ 1 0 = nI H) (ehm : τ 0 6 = nI H) (ht : ∀ h, h < 8 → τ 1 (68 + h) = σ 20 h + 1) : ∀ (r k n m a : Nat), k + r = H → r < n → r < m → ∃ x, f1_pots_L4 n 1 (nI a) (nI k) σ = some (x, σ) ∧ f12_potMany_L4 m (nI a) (nI k) τ = some (x, τ)
  | 0, k, n, m, a, hk, hn, hm => by
    obtain ⟨n, rfl⟩ : ∃ m, n = m + 1 := ⟨n - 1, by omega⟩
    obtain ⟨m, rfl⟩ : ∃ n, m = n + 1 := ⟨m - 1, by omega⟩
    refine ⟨nI a, ?_, ?_⟩
    · unfold f1_pots_L4
      rw [eh, if_neg (nI_nlt (by omega) (by omega))]
    · unfold f12_potMany_L4
      rw [ehm, if_neg (nI_nlt (by omega) (by omega))]
  | r + 1, k, n, m, a, hk, hn, hm => by
    obtain ⟨n, rfl⟩ : ∃ m, n = m + 1 := ⟨n - 1, by omega⟩
    obtain ⟨m, rfl⟩ : ∃ n, m = n + 1 := ⟨m - 1, by omega⟩
    unfold f1_pots_L4 f12_potMany_L4
    rw [eh, ehm, if_pos (nI_lt (by omega) (by omega)), if_pos (nI_lt (by omega) (by omega)), e0_hasPot (by omega), e12_potOf' (by omega) τ (ht k (by omega)), q_bnd, q_bnd, nI_1, nI_1]
    by_cases hp : σ 20 k = -1
    · rw [if_pos hp, if_pos rfl, if_pos hp]
      exact e_pots hH eh ehm ht r (k + 1) n m a (by omega) (by omega) (by omega)
    · rw [if_neg hp, if_neg (by decide), if_neg hp]
      exact e_pots hH eh ehm ht r (k + 1) n m (a + 1) (by omega) (by omega) (by omega)
theorem p_look0 : p_look Rel0 := by
  intro p1 σ τ hR
  replace hR := Rel0_told hR
  unfold f12_look
  rw [q_let]
  generalize z_set τ 0 0 0 = τ at hR ⊢
  have hR0 := hR
  obtain ⟨⟨H, hN, hU⟩, hI, hT, hF, hC⟩ := hR
  obtain ⟨g1, g2, g3, g4, g5, g6, g7, g8, g9, g10⟩ := hN
  have eh : σ 1 0 = nI H := g1.2.1
  have ehm : τ 0 6 = nI H := g1.2.2.1
  have hH := g1.1
  have go : ∀ {x y : Option (Int32 × z_M)} (a b : Int32), x = some (a, σ) → y = some (b, τ) → b = a → ∃ (r : Int32) (σ' τ' : z_M), x = some (r, σ') ∧ y = some (r, τ') ∧ Rel0 σ' τ' := fun a b h1 h2 h3 => ⟨a, σ, τ, h1, h3 ▸ h2, hR0⟩
  by_cases q : p1 = 0
  · subst q; exact go (σ 1 0) (τ 0 6) rfl rfl (ehm.trans eh.symm)
  by_cases q : p1 = 1
  · subst q; exact go (σ 18 6) (τ 1 0) rfl rfl g10.1.1
  by_cases q : p1 = 2
  · subst q; exact go (σ 18 7) (τ 1 3) rfl rfl g10.1.2.2.2
  by_cases q : p1 = 3
  · subst q
    obtain ⟨x, h1, h2⟩ := e_pots hH eh ehm (fun h hh => (g10.2.2.2.2.1 h hh).1) H 0 z_fu z_fu 0 (by omega) (show H < 1000 by omega) (show H < 1000 by omega)
    have h1 : f1_pots 1 σ = some (x, σ) := h1
    have h2 : f12_potMany τ = some (x, τ) := h2
    refine go x x ?_ ?_ rfl
    · unfold f11_look
      rw [if_neg (by decide), if_neg (by decide), if_neg (by decide), if_pos rfl, h1]; rfl
    · rw [if_neg (by decide), if_neg (by decide), if_neg (by decide), if_pos rfl, h2]; rfl
  by_cases q : p1 = 4
  · subst q; exact go (σ 18 8) (τ 1 2) rfl rfl g10.1.2.2.1
  by_cases q : p1 = 5
  · subst q; exact go (σ 18 5) (τ 1 1) rfl rfl g10.1.2.1
  by_cases q : p1 = 6
  · subst q
    obtain ⟨n, -, e1, e2, -⟩ := g4
    exact go (σ 4 2) (τ 0 36) rfl rfl (Eq.trans e2 e1.symm)
  by_cases q : p1 = 7
  · subst q
    obtain ⟨n, k, -, -, e1, e2, -⟩ := g5
    exact go (σ 7 2) (τ 9 1) rfl rfl (Eq.trans e2 e1.symm)
  by_cases q : p1 = 8
  · subst q
    obtain ⟨n, -, e1, e2, -⟩ := g6
    exact go (σ 10 2) (τ 0 38) rfl rfl (Eq.trans e2 e1.symm)
  by_cases q : p1 = 9
  · subst q
    obtain ⟨n, -, e1, e2, -⟩ := g7
    exact go (σ 13 2) (τ 0 40) rfl rfl (Eq.trans e2 e1.symm)
  by_cases q : p1 = 10
  · subst q
    obtain ⟨n, -, e1, e2, -⟩ := g8
    exact go (σ 1 11) (τ 0 52) rfl rfl (Eq.trans e2 e1.symm)
  by_cases q : p1 = 11
  · subst q
    obtain ⟨nx, uc, -, -, -, e1, e2, -⟩ := hU
    exact go (σ 58 2) (τ 0 3) rfl rfl (Eq.trans e2 e1.symm)
  by_cases q : p1 = 12
  · subst q
    refine go (σ 1 1) (τ 0 7 + 3) rfl rfl ?_
    rw [show τ 0 7 = σ 1 1 - 3 from g1.2.2.2.2.1, q_sub_add]
  by_cases q : p1 = 13
  · subst q; exact go (σ 1 2) (τ 0 8) rfl rfl g1.2.2.2.2.2.2.1
  by_cases q : p1 = 14
  · subst q; exact go (σ 1 3) (τ 0 9) rfl rfl g1.2.2.2.2.2.2.2.2
  have c1 : f11_look p1 σ = (z_bnd (f11_isThing (p1 - 20) σ) fun r11 σ12 => if r11 = 0 then some ((-1), σ12) else z_chk (z_in (p1 - 20) 8) <| some (σ12 2 (z_ix (p1 - 20)), σ12)) := by
    unfold f11_look
    simp only [if_neg, *, not_false_eq_true]
  simp only [if_neg, *, not_false_eq_true]
  rw [e11_isThing, e12_isIn, q_bnd, q_bnd]
  rcases q_shift p1 20 8 (by omega) (by omega) with ⟨j, hj, e1, e2⟩ | ⟨h1, h2⟩
  · rw [show (20 : Int32) = nI 20 from rfl, e2, e1, show (27 : Int32) = nI 27 from rfl, l_8]
    refine go (σ 2 j) (τ 4 j) ?_ ?_ (g2 j hj).1
    · rw [if_neg (nI_pos (by omega)), if_pos (nI_lt hj (by omega)), if_neg (by decide), k_cin _ hj (by omega), q_ix (by omega)]
    · rw [if_neg (nI_nlt (by omega) (by omega)), if_neg (nI_nlt (by omega) (by omega)), if_neg (by decide), k_cin _ hj (by omega), q_ix (by omega)]
  · refine go (-1) (-1) ?_ ?_ rfl
    · rcases h1 with h1 | h1
      · have h1 : p1 - 20 < 0 := h1
        rw [if_pos (if_pos h1)]
      · have h1 : ¬ p1 - 20 < 8 := h1
        rw [if_pos (by simp only [h1, if_false, ite_self])]
    · rcases h2 with h2 | h2
      · have h2 : p1 < 20 := h2
        rw [if_pos (if_pos h2)]
      · have h2 : 27 < p1 := h2
        rw [if_pos (by simp only [h2, if_true, ite_self])]
/-- feed -/
def T_n (n : Nat) (σ τ : z_M) : Prop := n ≤ 400 ∧ σ 96 1 = nI n ∧ τ 0 14 = nI n ∧ ∀ k, k < n → ∃ b, b < 256 ∧ τ 7 k = nI b ∧ σ 97 k = (nI b).toInt8.toInt32
def T_f (σ τ σ' τ' : z_M) : Prop := (∀ c, c ≠ 96 → c ≠ 97 → σ' c = σ c) ∧ (∀ c, c ≠ 0 → c ≠ 7 → τ' c = τ c) ∧ ∀ k, k ≠ 14 → τ' 0 k = τ 0 k
theorem T_f_refl (σ τ : z_M) : T_f σ τ σ τ := ⟨fun _ _ _ => rfl, fun _ _ _ => rfl, fun _ _ => rfl⟩
theorem T_f_trans {σ τ σ' τ' σ'' τ'' : z_M} (h : T_f σ τ σ' τ') (h2 : T_f σ' τ' σ'' τ'') : T_f σ τ σ'' τ'' := ⟨fun c a b => (h2.1 c a b).trans (h.1 c a b), fun c a b => (h2.2.1 c a b).trans (h.2.1 c a b), fun c a => (h2.2.2 c a).trans (h.2.2 c a)⟩
theorem b_byte (x : Int32) : ∃ b, b < 256 ∧ x &&& 255 = nI b ∧ x.toInt8.toInt32.toInt8.toInt32 = (nI b).toInt8.toInt32 := by
  obtain ⟨b, hb, e⟩ := pk_andE x (m := 255) 8 (by decide)
  refine ⟨b, hb, e, ?_⟩
  rw [← e, Int32.toInt8_and, Int8.toInt8_toInt32, show (255 : Int32).toInt8 = -1 from by decide]
  congr 1
  apply Int8.toBitVec_inj.1
  rw [Int8.toBitVec_and, show (-1 : Int8).toBitVec = BitVec.allOnes 8 from by decide, BitVec.and_allOnes]
theorem e_byte {n : Nat} {σ τ : z_M} (h : T_n n σ τ) (hn : n < 400) (p v : Int32) (hv : ¬ v < 0) (i j : Nat) : ∃ σ' τ', f8_add_L3 (i + 1) p v σ = f8_add_L3 i p (v + (-8)) σ' ∧ f12_types_L3 (j + 1) p v τ = f12_types_L3 j p (v + (-8)) τ' ∧ T_n (n + 1) σ' τ' ∧ T_f σ τ σ' τ' := by
  obtain ⟨h1, h2, h3, h4⟩ := h
  obtain ⟨b, hb, eb, ec⟩ := b_byte (z_shr p v)
  refine ⟨z_set (z_set σ 97 n (nI b).toInt8.toInt32) 96 1 (nI (n + 1)), z_set (z_set τ 7 n (nI b)) 0 14 (nI (n + 1)), ?_, ?_, ⟨by omega, rfl, rfl, fun k hk => ?_⟩, fun c a b => ?_, fun c a b => ?_, fun k a => ?_⟩
  · conv => lhs; unfold f8_add_L3
    rw [if_neg hv, h2, l_400, if_pos (nI_lt hn (by omega)), k_cin _ hn (by omega), q_ix (by omega), q_let, q_let, ec]
    show f8_add_L3 i p (v + -8) (z_set (z_set σ 97 n _) 96 1 (σ 96 1 + 1)) = _
    rw [h2, nI_1]
  · conv => lhs; unfold f12_types_L3
    rw [if_neg hv, h3, k_cin _ hn (by omega), q_ix (by omega), q_let, q_let, eb]
    show f12_types_L3 j p (v + -8) (z_set (z_set τ 7 n _) 0 14 (τ 0 14 + 1)) = _
    rw [h3, nI_1]
  · show ∃ x, x < 256 ∧ upd (τ 7) n (nI b) k = nI x ∧ upd (σ 97) n (nI b).toInt8.toInt32 k = (nI x).toInt8.toInt32
    rw [q_upd, q_upd]
    by_cases e : k = n
    · rw [if_pos e, if_pos e]; exact ⟨b, hb, rfl, rfl⟩
    · rw [if_neg e, if_neg e]; exact h4 k (by omega)
  · rw [q_set, if_neg a, q_set, if_neg b]
  · rw [q_set, if_neg a, q_set, if_neg b]
  · show upd (τ 0) 14 _ k = _
    rw [q_upd, if_neg a]
theorem e_add {n : Nat} {σ τ : z_M} (h : T_n n σ τ) (hn : n + 4 ≤ 400) (p : Int32) : ∃ σ' τ', f8_add p σ = some ((), σ') ∧ f12_types p τ = some ((), τ') ∧ T_n (n + 4) σ' τ' ∧ T_f σ τ σ' τ' := by
  obtain ⟨σ1, τ1, a1, b1, c1, d1⟩ := e_byte h (by omega) p 24 (by decide) 999 999
  obtain ⟨σ2, τ2, a2, b2, c2, d2⟩ := e_byte c1 (by omega) p 16 (by decide) 998 998
  obtain ⟨σ3, τ3, a3, b3, c3, d3⟩ := e_byte c2 (by omega) p 8 (by decide) 997 997
  obtain ⟨σ4, τ4, a4, b4, c4, d4⟩ := e_byte c3 (by omega) p 0 (by decide) 996 996
  refine ⟨σ4, τ4, ?_, ?_, c4, T_f_trans (T_f_trans (T_f_trans d1 d2) d3) d4⟩
  · exact (a1.trans (a2.trans (a3.trans a4))).trans rfl
  · exact (b1.trans (b2.trans (b3.trans b4))).trans rfl
theorem p_feed0 : p_feed Rel0 := by
  intro p1 p2 p3 p4 p5 σ τ hR
  replace hR := Rel0_told hR
  unfold f12_feed
  rw [q_let]
  generalize z_set τ 0 0 0 = τ at hR ⊢
  have hR0 := hR
  obtain ⟨hG, hI, ⟨n, ht⟩, hF, hC⟩ := hR
  have ht : T_n n σ τ := ht
  have e1 := ht.2.1
  have e2 := ht.2.2.1
  have hn := ht.1
  unfold f11_feed
  by_cases hc : 380 < n
  · refine ⟨-1, σ, τ, ?_, ?_, hR0⟩
    · rw [e1, l_400, l_20, nI_add, if_pos (nI_lt (by omega) (by omega))]
    · rw [e2, l_380, if_pos (nI_lt (by omega) (by omega))]
  · rw [e1, l_400, l_20, nI_add, if_neg (nI_nlt (by omega) (by omega)), e2, l_380, if_neg (nI_nlt (by omega) (by omega))]
    obtain ⟨σ1, τ1, a1, b1, c1, d1⟩ := e_add ht (by omega) p1
    obtain ⟨σ2, τ2, a2, b2, c2, d2⟩ := e_add c1 (by omega) p2
    obtain ⟨σ3, τ3, a3, b3, c3, d3⟩ := e_add c2 (by omega) p3
    obtain ⟨σ4, τ4, a4, b4, c4, d4⟩ := e_add c3 (by omega) p4
    obtain ⟨σ5, τ5, a5, b5, c5, d5⟩ := e_add c4 (by omega) p5
    rw [a1, b1, q_bnd, q_bnd, a2, b2, q_bnd, q_bnd, a3, b3, q_bnd, q_bnd, a4, b4, q_bnd, q_bnd, a5, b5, q_bnd, q_bnd, c5.2.1, c5.2.2.1]
    have d := T_f_trans (T_f_trans (T_f_trans (T_f_trans d1 d2) d3) d4) d5
    refine ⟨_, σ5, τ5, rfl, rfl, Rel0_frame hR0 (fun c h => d.1 c (by omega) (by omega)) (by rw [d.1 50 (by omega) (by omega)]) (by rw [d.1 51 (by omega) (by omega)]) (fun c h => d.2.1 c (by unfold K_m at h; omega) (by unfold K_m at h; omega)) (fun k h => d.2.2 k (by unfold K_0 at h; omega)) ⟨_, c5⟩ ?_⟩
    rw [d.1 101 (by omega) (by omega), d.2.2 34 (by omega), d.2.2 35 (by omega)]; exact hF
