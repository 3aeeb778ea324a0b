/-! one token cut by the class is the token that the reference reads -/
theorem v_nb : ∀ b, b < 256 → (b ≠ 32 → ¬ cb b = 32) ∧ (b ≠ 10 → ¬ cb b = 10) ∧ (¬ nI b = -1) := by decide +kernel
theorem r_begin {n p : Nat} {b : Nat → Nat} {τ : z_M} (h : TM n b τ) (hp : p < n) (h15 : τ 0 15 = nI p) : ∃ τb, MF τ τb ∧ τb 0 15 = nI (p + 1) ∧ τb 0 16 = nI p ∧ τb 0 17 = 1 ∧ τb 0 18 = nI (b p) ∧ (isL (b p) = true → f12_reads_J39 τ = f12_reads_L95 z_fu τb) ∧ (isL (b p) = false → isD (b p) = true → f12_reads_J39 τ = f12_reads_L171 z_fu (z_set τb 0 18 (nI (b p) - 48))) ∧ (isL (b p) = false → isD (b p) = false → mk (b p) = true → f12_reads_J39 τ = some ((), z_set τb 0 17 4)) ∧ (isL (b p) = false → isD (b p) = false → mk (b p) = false → f12_reads_J39 τ = some ((), τb)) := by
  have hb := (h.2.2 p hp).1
  have hm := (v_nb (b p) hb).2.2
  let τa := z_set (z_set τ 0 16 (nI p)) 0 17 1
  have ha : MF τ τa := MF_trans (MF_set (by omega)) (MF_set (by omega))
  have ha15 : τa 0 15 = nI p := by
    show z_set (z_set τ 0 16 (nI p)) 0 17 1 0 15 = _
    rw [s_kn (by omega), s_kn (by omega)]; exact h15
  let τb := z_set (z_set τa 0 15 (nI (p + 1))) 0 18 (nI (b p))
  have hJ : f12_reads_J39 τ = if isL (b p) = true then f12_reads_L95 z_fu τb else if isD (b p) = true then f12_reads_L171 z_fu (z_set τb 0 18 (nI (b p) - 48)) else if mk (b p) = true then some ((), z_set τb 0 17 4) else some ((), τb) := by
    unfold f12_reads_J39
    rw [h15, q_let, q_let]
    show z_bnd (f12_raw (τa 0 15) τa) _ = _
    rw [ha15, e12_raw (TM_MF h ha) hp, q_bnd, if_neg hm, ha15, nI_1, q_let, q_let]
    show z_bnd (f12_isLetter (nI (b p)) τb) _ = _
    rw [e12_isLetter hb, q_bnd, e12_isDigit hb, q_bnd, e12_mark hb, q_bnd, q_let, q_let]
    have i1 : ∀ {α : Type} (x y : α), (if (if true = true then (1 : Int32) else 0) = 0 then x else y) = y := fun x y => if_neg (by decide)
    have i0 : ∀ {α : Type} (x y : α), (if (if false = true then (1 : Int32) else 0) = 0 then x else y) = x := fun x y => if_pos (by decide)
    have j1 : ∀ {α : Type} (x y : α), (if true = true then x else y) = x := fun x y => if_pos rfl
    have j0 : ∀ {α : Type} (x y : α), (if false = true then x else y) = y := fun x y => if_neg (by decide)
    cases isL (b p)
    · rw [i0, j0]
      cases isD (b p)
      · rw [i0, j0]
        cases mk (b p)
        · rw [i0, j0]
        · rw [i1, j1]
      · rw [i1, j1]
    · rw [i1, j1]
  refine ⟨τb, MF_trans ha (MF_trans (MF_set (by omega)) (MF_set (by omega))), ?_, ?_, ?_, s_eq, fun a => ?_, fun a c => ?_, fun a c d => ?_, fun a c d => ?_⟩
  · show z_set (z_set τa 0 15 (nI (p + 1))) 0 18 (nI (b p)) 0 15 = _
    rw [s_kn (by omega), s_eq]
  · show z_set (z_set τa 0 15 (nI (p + 1))) 0 18 (nI (b p)) 0 16 = _
    rw [s_kn (by omega), s_kn (by omega)]
    show z_set (z_set τ 0 16 (nI p)) 0 17 1 0 16 = _
    rw [s_kn (by omega), s_eq]
  · show z_set (z_set τa 0 15 (nI (p + 1))) 0 18 (nI (b p)) 0 17 = _
    rw [s_kn (by omega), s_kn (by omega)]
    exact s_eq
  · rw [hJ, if_pos a]
  · rw [hJ, a, if_neg (by decide), if_pos c]
  · rw [hJ, a, if_neg (by decide), c, if_neg (by decide), if_pos d]
  · rw [hJ, a, if_neg (by decide), c, if_neg (by decide), d, if_neg (by decide)]
theorem rd_tok {n p : Nat} {b : Nat → Nat} {σ : z_M} (h : TC n b σ) (hp : p < n) (h32 : b p ≠ 32) (h10 : b p ≠ 10) : ∃ e k v, p < e ∧ e ≤ n ∧ k ≠ 43 ∧ (∀ m i, i < 400 → f8_cut_L9 (m + 1) (nI p) (nI i) σ = z_bnd (f8_put k v (nI p) σ) fun _ σ4 => f8_cut_L9 m (nI e) (nI (i + 1)) σ4) ∧ ∀ τ, TM n b τ → (∀ k, k < 145 → τ 8 k = m_words k) → τ 0 15 = nI p → ∃ τ', f12_reads_J39 τ = some ((), τ') ∧ MF τ τ' ∧ τ' 0 15 = nI e ∧ TokR k v (nI p) (τ' 0 17) (τ' 0 18) (τ' 0 16) := by
  have hn := h.1
  obtain ⟨hb, e97⟩ := h.2.2 p hp
  obtain ⟨n32, n10, -⟩ := v_nb (b p) hb
  have hr : n - p = n - (p + 1) + 1 := by omega
  cases eL : isL (b p)
  · cases eD : isD (b p)
    · -- a sign
      rcases v_sg (b p) hb with ⟨m1, m2⟩ | ⟨m1, j, j1, j2, j3⟩
      · refine ⟨p + 1, sgk (b p), 0, by omega, by omega, by rw [m2]; decide, fun m i hi => ?_, fun τ t1 t2 t3 => ?_⟩
        · conv => lhs; unfold f8_cut_L9
          rw [if_pos (show nI i < 400 from nI_lt (a := i) (b := 400) (by omega) (by omega)), h.2.1, if_pos (nI_lt (by omega) (by omega)), k_cin _ (by omega) (by omega), q_ix (by omega), e97, e8_isLetter hb, q_bnd, eL, if_pos (by decide), e8_isDigit hb, q_bnd, eD, if_pos (by decide), if_neg (n32 h32), if_neg (n10 h10), e8_sign hb, q_bnd, nI_1, nI_1]
        · obtain ⟨τb, a1, a2, a3, a4, a5, -, -, -, a9⟩ := r_begin t1 hp t3
          exact ⟨τb, a9 eL eD m1, a1, a2, a3, .inr (.inl ⟨m2, a4⟩)⟩
      · refine ⟨p + 1, sgk (b p), 0, by omega, by omega, by rw [j2]; exact fun q => by (have q : nI (32 + j) = nI 43 := q; rw [nI_eq (by omega) (by omega)] at q; omega), fun m i hi => ?_, fun τ t1 t2 t3 => ?_⟩
        · conv => lhs; unfold f8_cut_L9
          rw [if_pos (show nI i < 400 from nI_lt (a := i) (b := 400) (by omega) (by omega)), h.2.1, if_pos (nI_lt (by omega) (by omega)), k_cin _ (by omega) (by omega), q_ix (by omega), e97, e8_isLetter hb, q_bnd, eL, if_pos (by decide), e8_isDigit hb, q_bnd, eD, if_pos (by decide), if_neg (n32 h32), if_neg (n10 h10), e8_sign hb, q_bnd, nI_1, nI_1]
        · obtain ⟨τb, a1, a2, a3, a4, a5, -, -, a8, -⟩ := r_begin t1 hp t3
          refine ⟨z_set τb 0 17 4, a8 eL eD m1, MF_trans a1 (MF_set (by omega)), by rw [s_kn (by omega)]; exact a2, by rw [s_kn (by omega)]; exact a3, .inr (.inr (.inr (.inr ⟨j, j1, j2, s_eq, ?_⟩)))⟩
          rw [s_kn (by omega), a5, j3]
    · -- a number
      let e := run (fun k => isD (b k)) (n - (p + 1)) (p + 1)
      have he := run_le (q := fun k => isD (b k)) (n - (p + 1)) (p + 1)
      have he1 : p + 1 ≤ e := he.1
      have he2 : e ≤ p + 1 + (n - (p + 1)) := he.2
      have hall : ∀ x, p ≤ x → x < e → isD (b x) = true := fun x x1 x2 => by
        by_cases q : x = p
        · rw [q]; exact eD
        · exact run_all (n - (p + 1)) (p + 1) x (by omega) x2
      have hend : f8_digitsEnd (nI p) σ = some (nI e, σ) := by
        have := e8_digits h (n - p) p z_fu (by omega) (show n - p < 1000 by omega)
        rw [hr, run_s, if_pos eD] at this
        exact this
      obtain ⟨c1, c2, c3⟩ := v_cb (b p) hb eD
      have hsub : nI e - nI p = nI (e - p) := pk_sub (by omega)
      have href : ∀ τ, TM n b τ → τ 0 15 = nI p → ∃ τ', f12_reads_J39 τ = f12_reads_J239 τ' ∧ MF τ τ' ∧ τ' 0 15 = nI e ∧ τ' 0 16 = nI p ∧ τ' 0 17 = 1 ∧ (e - p ≤ 4 → τ' 0 18 = nI (dg b (e - p) p 0)) := by
        intro τ t1 t3
        obtain ⟨τb, a1, a2, a3, a4, a5, -, a7, -, -⟩ := r_begin t1 hp t3
        have ev : nI (b p) - 48 = nI (b p - 48) := by
          show nI (b p) - nI 48 = _
          rw [pk_sub (by omega)]
        obtain ⟨τ', y1, y2, y3, y4, y5⟩ := r_L171 (b := b) (n - (p + 1)) (p + 1) z_fu (z_set τb 0 18 (nI (b p) - 48)) (by omega) (show n - (p + 1) < 1000 by omega) (TM_MF t1 (MF_trans a1 (MF_set (by omega)))) (by rw [s_kn (by omega)]; exact a2)
        refine ⟨τ', (a7 eL eD).trans y1, ⟨fun c hc => by rw [y3 c hc, s_ne hc]; exact a1.1 c hc, fun k hk => by rw [y4 k (by omega) (by omega), s_kn (by omega)]; exact a1.2 k hk⟩, y2, by rw [y4 16 (by omega) (by omega), s_kn (by omega)]; exact a3, by rw [y4 17 (by omega) (by omega), s_kn (by omega)]; exact a4, fun hs => ?_⟩
        have hp1 : 10 ^ 1 ≤ 10 ^ (4 - (e - (p + 1))) := Nat.pow_le_pow_right (by omega) (by omega)
        rw [y5 (b p - 48) (e - (p + 1)) (by rw [s_eq]; exact ev) (by show e = _; omega) (by omega) (by omega), show e - p = e - (p + 1) + 1 by omega]
        show _ = nI (dg b (e - (p + 1)) (p + 1) (10 * 0 + b p - 48))
        rw [show 10 * 0 + b p - 48 = b p - 48 by omega]
      have hcls : ∀ (k v : Int32), f8_numberOf (nI p) (nI e) σ = some (v, σ) → (if 4 < nI (e - p) then (44 : Int32) else 42) = k → ∀ m i, i < 400 → f8_cut_L9 (m + 1) (nI p) (nI i) σ = z_bnd (f8_put k v (nI p) σ) fun _ σ4 => f8_cut_L9 m (nI e) (nI (i + 1)) σ4 := by
        intro k v hv hk m i hi
        conv => lhs; unfold f8_cut_L9
        unfold f8_cut_J96
        rw [if_pos (show nI i < 400 from nI_lt (a := i) (b := 400) (by omega) (by omega)), h.2.1, if_pos (nI_lt (by omega) (by omega)), k_cin _ (by omega) (by omega), q_ix (by omega), e97, e8_isLetter hb, q_bnd, eL, if_pos (by decide), e8_isDigit hb, q_bnd, eD, if_neg (by decide), hend, q_bnd, hsub, hv, q_bnd, q_bnd, nI_1, ← hk]
        split <;> rfl
      by_cases hs : e - p ≤ 4
      · obtain ⟨z1, z2⟩ := e8_number h (e - p) p z_fu 0 (by omega) (show e - p < 1000 by omega) hs (Nat.pow_pos (by omega)) (fun x x1 x2 => hall x x1 (by omega))
        rw [show p + (e - p) = e by omega] at z1
        refine ⟨e, 42, nI (dg b (e - p) p 0), by omega, by omega, by decide, hcls 42 _ z1 (if_neg (show ¬ 4 < nI (e - p) from nI_nlt (a := 4) (b := e - p) (by omega) (by omega))), fun τ t1 t2 t3 => ?_⟩
        obtain ⟨τ', y1, y2, y3, y4, y5, y6⟩ := href τ t1 t3
        refine ⟨z_set τ' 0 17 3, ?_, MF_trans y2 (MF_set (by omega)), by rw [s_kn (by omega)]; exact y3, by rw [s_kn (by omega)]; exact y4, .inr (.inr (.inl ⟨rfl, s_eq, dg b (e - p) p 0, z2, rfl, by rw [s_kn (by omega)]; exact y6 hs⟩))⟩
        rw [y1]
        unfold f12_reads_J239
        rw [y3, y4, hsub, if_pos (show nI (e - p) < 5 from nI_lt (a := e - p) (b := 5) (by omega) (by omega)), q_let]
      · obtain ⟨v, z1⟩ := e8_some h (e - p) p z_fu 0 (by omega) (show e - p < 1000 by omega)
        rw [show p + (e - p) = e by omega] at z1
        refine ⟨e, 44, v, by omega, by omega, by decide, hcls 44 _ z1 (if_pos (show 4 < nI (e - p) from nI_lt (a := 4) (b := e - p) (by omega) (by omega))), fun τ t1 t2 t3 => ?_⟩
        obtain ⟨τ', y1, y2, y3, y4, y5, y6⟩ := href τ t1 t3
        refine ⟨τ', ?_, y2, y3, y4, .inr (.inl ⟨rfl, y5⟩)⟩
        rw [y1]
        unfold f12_reads_J239
        rw [y3, y4, hsub, if_neg (show ¬ nI (e - p) < 5 from nI_nlt (a := e - p) (b := 5) (by omega) (by omega))]
  · -- a word
    let e := run (fun k => isL (b k)) (n - (p + 1)) (p + 1)
    have he := run_le (q := fun k => isL (b k)) (n - (p + 1)) (p + 1)
    have he1 : p + 1 ≤ e := he.1
    have he2 : e ≤ p + 1 + (n - (p + 1)) := he.2
    have hall : ∀ x, p ≤ x → x < e → isL (b x) = true := fun x x1 x2 => by
      by_cases q : x = p
      · rw [q]; exact eL
      · exact run_all (n - (p + 1)) (p + 1) x (by omega) x2
    have hend : f8_lettersEnd (nI p) σ = some (nI e, σ) := by
      have := e8_letters h (n - p) p z_fu (by omega) (show n - p < 1000 by omega)
      rw [hr, run_s, if_pos eL] at this
      exact this
    have hcls : ∀ (k : Int32), f8_wordOf (nI p) (nI e) σ = some (k, σ) → ∀ m i, i < 400 → f8_cut_L9 (m + 1) (nI p) (nI i) σ = z_bnd (f8_put k 0 (nI p) σ) fun _ σ4 => f8_cut_L9 m (nI e) (nI (i + 1)) σ4 := by
      intro k hk m i hi
      conv => lhs; unfold f8_cut_L9
      rw [if_pos (show nI i < 400 from nI_lt (a := i) (b := 400) (by omega) (by omega)), h.2.1, if_pos (nI_lt (by omega) (by omega)), k_cin _ (by omega) (by omega), q_ix (by omega), e97, e8_isLetter hb, q_bnd, eL, if_neg (by decide), hend, q_bnd, hk, q_bnd, nI_1]
    have href : ∀ τ, TM n b τ → τ 0 15 = nI p → ∃ τ', f12_reads_J39 τ = f12_reads_J123 τ' ∧ MF τ τ' ∧ τ' 0 15 = nI e ∧ τ' 0 16 = nI p ∧ τ' 0 17 = 1 := by
      intro τ t1 t3
      obtain ⟨τb, a1, a2, a3, a4, a5, a6, -⟩ := r_begin t1 hp t3
      obtain ⟨τ', y1, y2, y3, y4⟩ := r_L95 (b := b) (n - (p + 1)) (p + 1) z_fu τb (by omega) (show n - (p + 1) < 1000 by omega) (TM_MF t1 a1) a2
      exact ⟨τ', (a6 eL).trans y1, ⟨fun c hc => by rw [y3 c hc]; exact a1.1 c hc, fun k hk => by rw [y4 k (by omega)]; exact a1.2 k hk⟩, y2, by rw [y4 16 (by omega)]; exact a3, by rw [y4 17 (by omega)]; exact a4⟩
    rcases w_both (n := n) (b := b) (p := p) (e := e) (by omega) (by omega) hall with ⟨w1, w2⟩ | ⟨j, j1, w1, w2⟩
    · refine ⟨e, 44, 0, by omega, by omega, by decide, hcls 44 (w1 σ h), fun τ t1 t2 t3 => ?_⟩
      obtain ⟨τ', y1, y2, y3, y4, y5⟩ := href τ t1 t3
      refine ⟨z_set τ' 0 18 (-1), ?_, MF_trans y2 (MF_set (by omega)), by rw [s_kn (by omega)]; exact y3, by rw [s_kn (by omega)]; exact y4, .inr (.inl ⟨rfl, by rw [s_kn (by omega)]; exact y5⟩)⟩
      rw [y1]
      unfold f12_reads_J123
      rw [y3, y4, w2 τ' (TM_MF t1 y2) (fun k hk => by rw [y2.1 8 (by omega)]; exact t2 k hk), q_bnd, q_let, s_eq, if_pos rfl]
    · obtain ⟨j2, -, -⟩ := v_wp j j1
      refine ⟨e, nI j, 0, by omega, by omega, fun q => by (have q : nI j = nI 43 := q; rw [nI_eq (by omega) (by omega)] at q; omega), hcls (nI j) (w1 σ h), fun τ t1 t2 t3 => ?_⟩
      obtain ⟨τ', y1, y2, y3, y4, y5⟩ := href τ t1 t3
      refine ⟨z_set (z_set τ' 0 18 (nI (wp j))) 0 17 2, ?_, MF_trans y2 (MF_trans (MF_set (by omega)) (MF_set (by omega))), by rw [s_kn (by omega), s_kn (by omega)]; exact y3, by rw [s_kn (by omega), s_kn (by omega)]; exact y4, .inr (.inr (.inr (.inl ⟨j, j1, rfl, s_eq, by rw [s_kn (by omega), s_eq]⟩)))⟩
      rw [y1]
      unfold f12_reads_J123
      rw [y3, y4, w2 τ' (TM_MF t1 y2) (fun k hk => by rw [y2.1 8 (by omega)]; exact t2 k hk), q_bnd, q_let, s_eq, if_neg (q_neg (by omega)), q_let]
