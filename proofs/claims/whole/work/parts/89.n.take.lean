/-! a text is taken -/
/-- the relation, once some of the four texts were taken -/
theorem Rel0_take {σ τ σ' τ' : z_M} (h : Rel0 σ τ) (hσ : ∀ c, c ≤ 3 ∨ (16 ≤ c ∧ c ≤ 46) → σ' c = σ c) (h50 : σ' 50 = σ 50) (h51 : σ' 51 = σ 51) (h96 : σ' 96 = σ 96) (h97 : σ' 97 = σ 97) (h101 : σ' 101 = σ 101)
    (hτ : ∀ c, c = 1 ∨ (4 ≤ c ∧ c ≤ 8) ∨ (29 ≤ c ∧ c ≤ 31) ∨ c = 33 → τ' c = τ c) (h0 : ∀ k, (5 ≤ k ∧ k ≤ 9) ∨ k = 14 ∨ k = 34 ∨ k = 35 ∨ k = 52 ∨ k = 58 → τ' 0 k = τ 0 k)
    (hU : ∀ H, R_und H σ τ → R_und H σ' τ')
    (hG : ∀ H, R_now H σ τ → G_re (σ' 4 2) (τ' 0 36) (σ' 5) (τ' 17) ∧ G_la (σ' 7 2) (σ' 7 3) (τ' 9 1) (σ' 8) (σ' 9) (fun l => τ' 10 (16 + l)) (fun l => τ' 11 (16 + l)) (fun l => τ' 12 (16 + l)) (fun l => τ' 13 (16 + l)) (fun i => τ' 14 (400 + i)) (fun i => τ' 15 (400 + i)) ∧ G_wo H (σ' 10 2) (τ' 0 38) (σ' 11) (τ' 18) ∧ G_pl H (σ' 13 2) (τ' 0 40) (σ' 14) (τ' 19))
    (hz : σ' 4 3 = 0 ∧ σ' 10 3 = 0 ∧ σ' 13 3 = 0) : Rel0 σ' τ' := by
  obtain ⟨⟨H, hN, hU0⟩, hI, hT, hF, hC⟩ := h
  obtain ⟨n1, n2, n3, n4⟩ := hG H hN
  obtain ⟨g1, g2, g3, g4, g5, g6, g7, g8, g9, g10⟩ := hN
  refine ⟨⟨H, ⟨?_, ?_, ?_, n1, n2, n3, n4, ?_, ?_, ?_⟩, hU H hU0⟩, ?_, ?_, ?_, ?_⟩
  · show G_sc H (σ' 1 0) (σ' 1 1) (σ' 1 2) (σ' 1 3) (τ' 0 6) (τ' 0 7) (τ' 0 8) (τ' 0 9)
    rw [hσ 1 (by omega), h0 6 (by omega), h0 7 (by omega), h0 8 (by omega), h0 9 (by omega)]; exact g1
  · show G_st (σ' 2) (τ' 4)
    rw [hσ 2 (by omega), hτ 4 (by omega)]; exact g2
  · show G_li H (σ' 3) (τ' 5)
    rw [hσ 3 (by omega), hτ 5 (by omega)]; exact g3
  · show G_ta (σ' 1 11) (τ' 0 52) (σ' 16) (τ' 29) (τ' 30) (τ' 31)
    rw [hσ 1 (by omega), hσ 16 (by omega), h0 52 (by omega), hτ 29 (by omega), hτ 30 (by omega), hτ 31 (by omega)]; exact g8
  · show G_bo (σ' 17) (τ' 6)
    rw [hσ 17 (by omega), hτ 6 (by omega)]; exact g9
  · show G_be H 999 (σ' 18) (σ' 19) (σ' 20) (σ' 21) (σ' 22) (σ' 23) (τ' 1)
    rw [hσ 18 (by omega), hσ 19 (by omega), hσ 20 (by omega), hσ 21 (by omega), hσ 22 (by omega), hσ 23 (by omega), hτ 1 (by omega)]; exact g10
  · unfold R_img at hI ⊢
    rw [hτ 33 (by omega), hσ 0 (by omega), h0 58 (by omega)]
    refine ⟨hI.1, hI.2.imp id (fun q => ⟨q.1, ?_⟩)⟩
    obtain ⟨H', q2⟩ := q.2
    exact ⟨H', G_all_frame q2 (fun c h1 h2 => hσ c (by omega))⟩
  · obtain ⟨n, t1, t2, t3, t4⟩ := hT
    exact ⟨n, t1, by rw [h96]; exact t2, by rw [h0 14 (by omega)]; exact t3, by rw [h97, hτ 7 (by omega)]; exact t4⟩
  · rw [h101, h0 34 (by omega), h0 35 (by omega)]; exact hF
  · rw [h50, h51, h0 5 (by omega), hτ 8 (by omega), hσ 27 (by omega), hσ 33 (by omega), hσ 36 (by omega)]
    exact ⟨hC.1, hC.2.1, hC.2.2.1, hC.2.2.2.1, hz.1, hz.2.1, hz.2.2, hC.2.2.2.2.2.2.2⟩
/-- the reference copies a draft -/
theorem g_copy {β : Type} {F : Nat → Int32 → z_M → Option β} {G : z_M → Option β} {cell off tot : Nat} (htot : tot ≤ off) (hstep : ∀ m v τ, v < tot → F (m + 1) (nI v) τ = F m (nI (v + 1)) (z_set τ cell v (τ cell (off + v)))) (hend : ∀ m τ, F (m + 1) (nI tot) τ = G τ) : ∀ (r v m : Nat) (τ : z_M), v + r = tot → r < m → ∃ τ', F m (nI v) τ = G τ' ∧ (∀ c, c ≠ cell → τ' c = τ c) ∧ (∀ i, v ≤ i → i < tot → τ' cell i = τ cell (off + i)) ∧ ∀ i, i < v ∨ tot ≤ i → τ' cell i = τ cell i
  | 0, v, m, τ, h, hm => by
    obtain ⟨m, rfl⟩ : ∃ z, m = z + 1 := ⟨m - 1, by omega⟩
    have e : v = tot := by omega
    subst e
    exact ⟨τ, hend m τ, fun _ _ => rfl, fun i a c => by omega, fun _ _ => rfl⟩
  | r + 1, v, m, τ, h, hm => by
    obtain ⟨m, rfl⟩ : ∃ z, m = z + 1 := ⟨m - 1, by omega⟩
    obtain ⟨τ', a1, a2, a3, a4⟩ := g_copy htot hstep hend r (v + 1) m (z_set τ cell v (τ cell (off + v))) (by omega) (by omega)
    refine ⟨τ', by rw [hstep m v τ (by omega)]; exact a1, fun c hc => by rw [a2 c hc, s_ne hc], fun i i1 i2 => ?_, fun i hi => by rw [a4 i (by omega), s_kn (by omega)]⟩
    by_cases q : i = v
    · subst q
      rw [a4 i (by omega), s_eq]
    · rw [a3 i (by omega) i2, s_kn (by omega)]
theorem m_5 (k : Nat) : (5 : Int32) * nI k = nI (5 * k) := by rw [l_5, pk_mul]
theorem e12_take0 {k : Nat} {τ : z_M} (hk : k ≤ 16) : ∃ τ', f12_takesOther 0 (nI k) τ = some ((), τ') ∧ (∀ c, c ≠ 0 → c ≠ 17 → τ' c = τ c) ∧ (∀ s, s ≠ 3 → s ≠ 36 → τ' 0 s = τ 0 s) ∧ τ' 0 3 = 0 ∧ τ' 0 36 = nI k ∧ ∀ i, i < 3 * k → τ' 17 i = τ 17 (48 + i) := by
  obtain ⟨τ1, a1, a2, a3, a4⟩ := g_copy (F := fun m v τ => f12_takesOther_L6 m 0 (nI k) v τ) (G := f12_takesOther_J34 0 (nI k)) (cell := 17) (off := 48) (tot := 3 * k) (by omega) (fun m v τ hv => by
    show f12_takesOther_L6 (m + 1) 0 (nI k) (nI v) τ = _
    conv => lhs; unfold f12_takesOther_L6
    rw [m_3, if_pos (nI_lt hv (by omega)), show (48 : Int32) + nI v = nI (48 + v) from by show nI 48 + nI v = _; rw [nI_add], k_cin _ (by omega) (by omega), k_cin _ (by omega) (by omega), q_ix (by omega), q_ix (by omega), q_let, nI_1]) (fun m τ => by
    show f12_takesOther_L6 (m + 1) 0 (nI k) (nI (3 * k)) τ = _
    unfold f12_takesOther_L6
    rw [m_3, if_neg (nI_nlt (Nat.le_refl _) (by omega))]) (3 * k) 0 z_fu τ (by omega) (by unfold z_fu; omega)
  refine ⟨z_set (z_set τ1 0 36 (nI k)) 0 3 0, ?_, fun c h0 h17 => by rw [s_ne h0, s_ne h0, a2 c h17], fun s h3 h36 => by rw [s_kn h3, s_kn h36, a2 0 (by omega)], s_eq, by rw [s_kn (by omega), s_eq], fun i hi => by rw [s_ne (by omega), s_ne (by omega), a3 i (by omega) hi]⟩
  unfold f12_takesOther
  rw [i_00]
  exact a1
theorem e12_take2 {k : Nat} {τ : z_M} (hk : k ≤ 12) : ∃ τ', f12_takesOther 2 (nI k) τ = some ((), τ') ∧ (∀ c, c ≠ 0 → c ≠ 18 → τ' c = τ c) ∧ (∀ s, s ≠ 38 → τ' 0 s = τ 0 s) ∧ τ' 0 38 = nI k ∧ ∀ i, i < 3 * k → τ' 18 i = τ 18 (36 + i) := by
  obtain ⟨τ1, a1, a2, a3, a4⟩ := g_copy (F := fun m v τ => f12_takesOther_L86 m (nI k) v τ) (G := f12_takesOther_J114 (nI k)) (cell := 18) (off := 36) (tot := 3 * k) (by omega) (fun m v τ hv => by
    show f12_takesOther_L86 (m + 1) (nI k) (nI v) τ = _
    conv => lhs; unfold f12_takesOther_L86
    rw [m_3, if_pos (nI_lt hv (by omega)), show (36 : Int32) + nI v = nI (36 + v) from by show nI 36 + nI v = _; rw [nI_add], k_cin _ (by omega) (by omega), k_cin _ (by omega) (by omega), q_ix (by omega), q_ix (by omega), q_let, nI_1]) (fun m τ => by
    show f12_takesOther_L86 (m + 1) (nI k) (nI (3 * k)) τ = _
    unfold f12_takesOther_L86
    rw [m_3, if_neg (nI_nlt (Nat.le_refl _) (by omega))]) (3 * k) 0 z_fu τ (by omega) (by unfold z_fu; omega)
  refine ⟨z_set τ1 0 38 (nI k), ?_, fun c h0 h17 => by rw [s_ne h0, a2 c h17], fun s h3 => by rw [s_kn h3, a2 0 (by omega)], s_eq, fun i hi => by rw [s_ne (by omega), a3 i (by omega) hi]⟩
  unfold f12_takesOther f12_takesOther_J39 f12_takesOther_J79
  rw [if_neg (show ¬ (2 : Int32) = 0 by decide), if_neg (show ¬ (2 : Int32) = 3 by decide), if_pos (show (2 : Int32) = 2 from rfl)]
  exact a1
theorem e12_take3 {k : Nat} {τ : z_M} (hk : k ≤ 16) : ∃ τ', f12_takesOther 3 (nI k) τ = some ((), τ') ∧ (∀ c, c ≠ 0 → c ≠ 19 → τ' c = τ c) ∧ (∀ s, s ≠ 3 → s ≠ 40 → τ' 0 s = τ 0 s) ∧ τ' 0 3 = 0 ∧ τ' 0 40 = nI k ∧ ∀ i, i < 5 * k → τ' 19 i = τ 19 (80 + i) := by
  obtain ⟨τ1, a1, a2, a3, a4⟩ := g_copy (F := fun m v τ => f12_takesOther_L46 m 3 (nI k) v τ) (G := f12_takesOther_J74 3 (nI k)) (cell := 19) (off := 80) (tot := 5 * k) (by omega) (fun m v τ hv => by
    show f12_takesOther_L46 (m + 1) 3 (nI k) (nI v) τ = _
    conv => lhs; unfold f12_takesOther_L46
    rw [m_5, if_pos (nI_lt hv (by omega)), show (80 : Int32) + nI v = nI (80 + v) from by show nI 80 + nI v = _; rw [nI_add], k_cin _ (by omega) (by omega), k_cin _ (by omega) (by omega), q_ix (by omega), q_ix (by omega), q_let, nI_1]) (fun m τ => by
    show f12_takesOther_L46 (m + 1) 3 (nI k) (nI (5 * k)) τ = _
    unfold f12_takesOther_L46
    rw [m_5, if_neg (nI_nlt (Nat.le_refl _) (by omega))]) (5 * k) 0 z_fu τ (by omega) (by unfold z_fu; omega)
  refine ⟨z_set (z_set τ1 0 40 (nI k)) 0 3 0, ?_, fun c h0 h17 => by rw [s_ne h0, s_ne h0, a2 c h17], fun s h3 h36 => by rw [s_kn h3, s_kn h36, a2 0 (by omega)], s_eq, by rw [s_kn (by omega), s_eq], fun i hi => by rw [s_ne (by omega), s_ne (by omega), a3 i (by omega) hi]⟩
  unfold f12_takesOther f12_takesOther_J39
  rw [if_neg (show ¬ (3 : Int32) = 0 by decide), if_pos (show (3 : Int32) = 3 from rfl)]
  exact a1
/-- the law: first the lines, then the codes -/
theorem e12_takeL {k : Nat} (hk : k ≤ 16) : ∀ (r v m : Nat) (τ : z_M), τ 0 27 = 1 → v + r = k → r < m → ∃ τ', f12_takesLaw_L2 m (nI k) (nI v) τ = f12_takesLaw_J105 (nI k) τ' ∧ (∀ c, c < 10 ∨ 13 < c → τ' c = τ c) ∧ (∀ c i, 10 ≤ c → c ≤ 13 → v ≤ i → i < k → τ' c (16 + i) = τ c (32 + i)) ∧ ∀ c i, 10 ≤ c → c ≤ 13 → i < 16 + v ∨ 32 ≤ i → τ' c i = τ c i
  | 0, v, m, τ, h27, h, hm => by
    obtain ⟨m, rfl⟩ : ∃ z, m = z + 1 := ⟨m - 1, by omega⟩
    have e : v = k := by omega
    subst e
    refine ⟨τ, ?_, fun _ _ => rfl, fun c i _ _ a c => by omega, fun _ _ _ _ _ => rfl⟩
    unfold f12_takesLaw_L2
    rw [if_neg (nI_nlt (Nat.le_refl _) (by omega))]
  | r + 1, v, m, τ, h27, h, hm => by
    obtain ⟨m, rfl⟩ : ∃ z, m = z + 1 := ⟨m - 1, by omega⟩
    have e32 : (32 : Int32) + nI v = nI (32 + v) := by show nI 32 + nI v = _; rw [nI_add]
    have e16 : (16 : Int32) * 1 + nI v = nI (16 + v) := by show nI 16 + nI v = _; rw [nI_add]
    have hst : f12_takesLaw_L2 (m + 1) (nI k) (nI v) τ = f12_takesLaw_L2 m (nI k) (nI (v + 1)) (z_set (z_set (z_set (z_set τ 10 (16 + v) (τ 10 (32 + v))) 11 (16 + v) (τ 11 (32 + v))) 12 (16 + v) (τ 12 (32 + v))) 13 (16 + v) (τ 13 (32 + v))) := by
      conv => lhs; unfold f12_takesLaw_L2
      rw [if_pos (nI_lt (show v < k by omega) (by omega)), e32, h27, e16, k_cin _ (by omega) (by omega), k_cin _ (by omega) (by omega), q_ix (by omega), q_ix (by omega), q_let, k_cin _ (by omega) (by omega), s_ne (show 0 ≠ 10 by omega), h27, e16, k_cin _ (by omega) (by omega), q_ix (by omega), s_ne (show 11 ≠ 10 by omega), q_let, k_cin _ (by omega) (by omega), s_ne (show 0 ≠ 11 by omega), s_ne (show 0 ≠ 10 by omega), h27, e16, k_cin _ (by omega) (by omega), q_ix (by omega), s_ne (show 12 ≠ 11 by omega), s_ne (show 12 ≠ 10 by omega), q_let, k_cin _ (by omega) (by omega), s_ne (show 0 ≠ 12 by omega), s_ne (show 0 ≠ 11 by omega), s_ne (show 0 ≠ 10 by omega), h27, e16, k_cin _ (by omega) (by omega), q_ix (by omega), s_ne (show 13 ≠ 12 by omega), s_ne (show 13 ≠ 11 by omega), s_ne (show 13 ≠ 10 by omega), q_let, nI_1]
    let τ2 : z_M := z_set (z_set (z_set (z_set τ 10 (16 + v) (τ 10 (32 + v))) 11 (16 + v) (τ 11 (32 + v))) 12 (16 + v) (τ 12 (32 + v))) 13 (16 + v) (τ 13 (32 + v))
    have o1 : ∀ c, c < 10 ∨ 13 < c → τ2 c = τ c := fun c hc => by
      show z_set (z_set (z_set (z_set τ 10 (16 + v) (τ 10 (32 + v))) 11 (16 + v) (τ 11 (32 + v))) 12 (16 + v) (τ 12 (32 + v))) 13 (16 + v) (τ 13 (32 + v)) c = τ c
      rw [s_ne (by omega), s_ne (by omega), s_ne (by omega), s_ne (by omega)]
    have o2 : ∀ c i, 10 ≤ c → c ≤ 13 → τ2 c i = if i = 16 + v then τ c (32 + v) else τ c i := fun c i c1 c2 => by
      show z_set (z_set (z_set (z_set τ 10 (16 + v) (τ 10 (32 + v))) 11 (16 + v) (τ 11 (32 + v))) 12 (16 + v) (τ 12 (32 + v))) 13 (16 + v) (τ 13 (32 + v)) c i = _
      rcases (show c = 10 ∨ c = 11 ∨ c = 12 ∨ c = 13 by omega) with rfl | rfl | rfl | rfl
      · rw [s_ne (by omega), s_ne (by omega), s_ne (by omega)]
        by_cases q : i = 16 + v
        · rw [if_pos q, q, s_eq]
        · rw [if_neg q, s_kn q]
      · rw [s_ne (by omega), s_ne (by omega)]
        by_cases q : i = 16 + v
        · rw [if_pos q, q, s_eq]
        · rw [if_neg q, s_kn q, s_ne (by omega)]
      · rw [s_ne (by omega)]
        by_cases q : i = 16 + v
        · rw [if_pos q, q, s_eq]
        · rw [if_neg q, s_kn q, s_ne (by omega), s_ne (by omega)]
      · by_cases q : i = 16 + v
        · rw [if_pos q, q, s_eq]
        · rw [if_neg q, s_kn q, s_ne (by omega), s_ne (by omega), s_ne (by omega)]
    obtain ⟨τ', a1, a2, a3, a4⟩ := e12_takeL hk r (v + 1) m τ2 (by rw [o1 0 (by omega)]; exact h27) (by omega) (by omega)
    refine ⟨τ', by rw [hst]; exact a1, fun c hc => by rw [a2 c hc, o1 c hc], fun c i c1 c2 i1 i2 => ?_, fun c i c1 c2 hi => by rw [a4 c i c1 c2 (by omega), o2 c i c1 c2, if_neg (by omega)]⟩
    by_cases q : i = v
    · subst q
      rw [a4 c _ c1 c2 (by omega), o2 c _ c1 c2, if_pos rfl]
    · rw [a3 c i c1 c2 (by omega) i2, o2 c _ c1 c2, if_neg (by omega)]
theorem e12_takeC {k c : Nat} (hk : k ≤ 16) (hc : c ≤ 400) : ∀ (r v m : Nat) (τ : z_M), τ 0 27 = 1 → τ 0 28 = nI c → v + r = c → r < m → ∃ τ', f12_takesLaw_L107 m (nI k) (nI v) τ = f12_takesLaw_J171 (nI k) τ' ∧ (∀ d, d ≠ 14 → d ≠ 15 → τ' d = τ d) ∧ (∀ i, v ≤ i → i < c → τ' 14 (400 + i) = τ 14 (800 + i) ∧ τ' 15 (400 + i) = τ 15 (800 + i)) ∧ ∀ i, i < 400 + v ∨ 800 ≤ i → τ' 14 i = τ 14 i ∧ τ' 15 i = τ 15 i
  | 0, v, m, τ, h27, h28, h, hm => by
    obtain ⟨m, rfl⟩ : ∃ z, m = z + 1 := ⟨m - 1, by omega⟩
    have e : v = c := by omega
    subst e
    refine ⟨τ, ?_, fun _ _ _ => rfl, fun i a c => by omega, fun _ _ => ⟨rfl, rfl⟩⟩
    unfold f12_takesLaw_L107
    rw [h28, if_neg (nI_nlt (Nat.le_refl _) (by omega))]
  | r + 1, v, m, τ, h27, h28, h, hm => by
    obtain ⟨m, rfl⟩ : ∃ z, m = z + 1 := ⟨m - 1, by omega⟩
    have e8 : (800 : Int32) + nI v = nI (800 + v) := by show nI 800 + nI v = _; rw [nI_add]
    have e4 : (400 : Int32) * 1 + nI v = nI (400 + v) := by show nI 400 + nI v = _; rw [nI_add]
    have hst : f12_takesLaw_L107 (m + 1) (nI k) (nI v) τ = f12_takesLaw_L107 m (nI k) (nI (v + 1)) (z_set (z_set τ 14 (400 + v) (τ 14 (800 + v))) 15 (400 + v) (τ 15 (800 + v))) := by
      conv => lhs; unfold f12_takesLaw_L107
      rw [h28, if_pos (nI_lt (show v < c by omega) (by omega)), e8, h27, e4, k_cin _ (by omega) (by omega), k_cin _ (by omega) (by omega), q_ix (by omega), q_ix (by omega), q_let, k_cin _ (by omega) (by omega), s_ne (show 0 ≠ 14 by omega), h27, e4, k_cin _ (by omega) (by omega), q_ix (by omega), s_ne (show 15 ≠ 14 by omega), q_let, nI_1]
    let τ2 : z_M := z_set (z_set τ 14 (400 + v) (τ 14 (800 + v))) 15 (400 + v) (τ 15 (800 + v))
    have o1 : ∀ d, d ≠ 14 → d ≠ 15 → τ2 d = τ d := fun d a c => by
      show z_set (z_set τ 14 (400 + v) (τ 14 (800 + v))) 15 (400 + v) (τ 15 (800 + v)) d = τ d
      rw [s_ne c, s_ne a]
    have o2 : ∀ i, τ2 14 i = if i = 400 + v then τ 14 (800 + v) else τ 14 i := fun i => by
      show z_set (z_set τ 14 (400 + v) (τ 14 (800 + v))) 15 (400 + v) (τ 15 (800 + v)) 14 i = _
      rw [s_ne (by omega)]
      by_cases q : i = 400 + v
      · rw [if_pos q, q, s_eq]
      · rw [if_neg q, s_kn q]
    have o3 : ∀ i, τ2 15 i = if i = 400 + v then τ 15 (800 + v) else τ 15 i := fun i => by
      show z_set (z_set τ 14 (400 + v) (τ 14 (800 + v))) 15 (400 + v) (τ 15 (800 + v)) 15 i = _
      by_cases q : i = 400 + v
      · rw [if_pos q, q, s_eq]
      · rw [if_neg q, s_kn q, s_ne (by omega)]
    obtain ⟨τ', a1, a2, a3, a4⟩ := e12_takeC hk hc r (v + 1) m τ2 (by rw [o1 0 (by omega) (by omega)]; exact h27) (by rw [o1 0 (by omega) (by omega)]; exact h28) (by omega) (by omega)
    refine ⟨τ', by rw [hst]; exact a1, fun d d1 d2 => by rw [a2 d d1 d2, o1 d d1 d2], fun i i1 i2 => ?_, fun i hi => by rw [(a4 i (by omega)).1, (a4 i (by omega)).2, o2, o3, if_neg (by omega), if_neg (by omega)]; exact ⟨rfl, rfl⟩⟩
    by_cases q : i = v
    · subst q
      rw [(a4 _ (by omega)).1, (a4 _ (by omega)).2, o2, o3, if_pos rfl, if_pos rfl]; exact ⟨rfl, rfl⟩
    · rw [(a3 i (by omega) i2).1, (a3 i (by omega) i2).2, o2, o3, if_neg (by omega), if_neg (by omega)]; exact ⟨rfl, rfl⟩
theorem e12_take1 {k c : Nat} {τ : z_M} (hk : k ≤ 16) (hc : c ≤ 400) (h27 : τ 0 27 = 1) (h28 : τ 0 28 = nI c) : ∃ τ', f12_takesLaw (nI k) τ = some ((), τ') ∧ (∀ d, d < 9 ∨ 15 < d → τ' d = τ d) ∧ τ' 9 1 = nI k ∧ (∀ d i, 10 ≤ d → d ≤ 13 → i < k → τ' d (16 + i) = τ d (32 + i)) ∧ ∀ i, i < c → τ' 14 (400 + i) = τ 14 (800 + i) ∧ τ' 15 (400 + i) = τ 15 (800 + i) := by
  obtain ⟨τ1, a1, a2, a3, -⟩ := e12_takeL hk k 0 z_fu τ h27 (by omega) (by unfold z_fu; omega)
  obtain ⟨τ2, b1, b2, b3, -⟩ := e12_takeC hk hc c 0 z_fu τ1 (by rw [a2 0 (by omega)]; exact h27) (by rw [a2 0 (by omega)]; exact h28) (by omega) (by unfold z_fu; omega)
  refine ⟨z_set τ2 9 1 (nI k), ?_, fun d hd => by rw [s_ne (by omega), b2 d (by omega) (by omega), a2 d (by omega)], s_eq, fun d i d1 d2 hi => by rw [s_ne (by omega), b2 d (by omega) (by omega), a3 d i d1 d2 (by omega) hi], fun i hi => ?_⟩
  · have h272 : τ2 0 27 = 1 := by rw [b2 0 (by omega) (by omega), a2 0 (by omega)]; exact h27
    have e1 : f12_takesLaw (nI k) τ = f12_takesLaw_J105 (nI k) τ1 := a1
    have e2 : f12_takesLaw_J105 (nI k) τ1 = f12_takesLaw_J171 (nI k) τ2 := b1
    rw [e1, e2]
    unfold f12_takesLaw_J171
    rw [h272, q_chk _ (by decide), q_let]
    rfl
  · rw [s_ne (by omega), s_ne (by omega), (b3 i (by omega) hi).1, (b3 i (by omega) hi).2, a2 14 (by omega), a2 15 (by omega)]; exact ⟨rfl, rfl⟩
