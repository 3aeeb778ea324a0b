/-! one line of works -/
theorem AM_end {n x : Nat} {b P : Nat → Nat} {K V L : Nat → Int32} {τ : z_M} (hm : AM n b P K V L x τ) : τ 0 17 = 0 ↔ K x = 43 := by
  obtain ⟨-, -, -, -, t⟩ := hm
  rcases t with ⟨a, c⟩ | ⟨a, c⟩ | ⟨a, c, d⟩ | ⟨i, i1, a, c, d⟩ | ⟨i, i1, a, c, d⟩
  · rw [a, c]; simp
  · rw [a, c]; decide
  · rw [a, c]; decide
  · rw [a, c]
    exact ⟨fun q => absurd q (by decide), fun z => by (have z : nI i = nI 43 := z; rw [nI_eq (by omega) (by omega)] at z; omega)⟩
  · rw [a, c]
    exact ⟨fun q => absurd q (by decide), fun z => by (have z : nI (32 + i) = nI 43 := z; rw [nI_eq (by omega) (by omega)] at z; omega)⟩
theorem e3_workF {N x : Nat} {K V L : Nat → Int32} {σ : z_M} {hi : Int32} (hc : AC N K V L x σ) (hN : N ≤ 400) (h2 : ¬ σ 101 2 = 0) : (z_bnd (f3_number 0 hi σ) fun r3 σ4 => z_bnd (f3_kind σ4) fun r5 σ6 => if r5 = 19 then f3_readWork_J44 r3 1 σ6 else f3_readWork_J44 r3 0 σ6) = some ((), σ) := by
  rw [e3_numberF h2, q_bnd, e3_kind hc hN, q_bnd, e3_work44F h2, e3_work44F h2, ite_self]
theorem r_work {n N x k H : Nat} {b P : Nat → Nat} {K V L : Nat → Int32} {σ τ : z_M} (hB : TkB n b N P K V L) (hc : AC N K V L x σ) (hm : AM n b P K V L x τ) (h2 : σ 101 2 = 0) (hk : k ≤ 12) (h102 : σ 102 2 = nI k) (hH : H ≤ 8) (h5 : σ 101 5 = nI H) (h6 : σ 101 6 = 12) (e6 : τ 0 6 = nI H) (hend : ¬ K x = 43) (hD : DW H k σ τ) : (∃ σ' τ' x', k < 12 ∧ f3_readWork σ = some ((), σ') ∧ (∀ m, f12_readWorks_L2 (m + 1) (nI k) τ = f12_readWorks_L2 m (nI (k + 1)) τ') ∧ AC N K V L x' σ' ∧ (σ' 101 2 = 0 ∧ σ' 101 3 = σ 101 3) ∧ AM n b P K V L x' τ' ∧ XC σ σ' ∧ XM τ τ' ∧ σ' 102 2 = nI (k + 1) ∧ (∀ s, s ≠ 2 → σ' 102 s = σ 102 s) ∧ DW H (k + 1) σ' τ') ∨ ∃ σ' τ', f3_readWork σ = some ((), σ') ∧ (∀ m, f12_readWorks_L2 (m + 1) (nI k) τ = some (-1, τ')) ∧ Fa σ τ σ' τ' := by
  have hN : N ≤ 400 := by have := hB.1; have := hB.2.1; omega
  have hx := hc.1
  have w18 : f12_isWord 18 τ = some (if K x = 18 then 1 else 0, τ) := e12_isWord (j := 18) hm (by omega)
  by_cases q : K x = 18
  · rw [if_pos q] at w18
    by_cases hk12 : k = 12
    · -- one too many
      right
      refine ⟨FC σ 3 (L x), FM τ 3 (L x), ?_, fun m => ?_, Fa_of (by decide) (XC_refl _) (XM_refl _)⟩
      · unfold f3_readWork f3_readWork_J15 f3_begins
        rw [e3_kind hc hN, q_bnd, if_pos q, i_10, h102, h6, if_neg (show ¬ nI k < 12 from nI_nlt (a := k) (b := 12) (by omega) (by omega)), hc.2.1, e3_fail hc hN (by omega) h2, q_bnd, q_bnd]
        exact e3_workF (AC_FC hc) hN (FC_f (by decide))
      · unfold f12_readWorks_L2 f12_readWorks_J17
        rw [w18, q_bnd, i_10, hk12, if_pos (show nI 12 = 12 from rfl), e12_errs hm, q_bnd]
    · have hkl : k < 12 := by omega
      have hlt := x_lt hB hx hend
      obtain ⟨τ1, y1, y2, y3⟩ := AM_next hB hm hlt
      have hc1 := AC_next hc hlt
      have h21 : z_set σ 101 4 (nI (x + 1)) 101 2 = 0 := by rw [s_kn (by omega)]; exact h2
      have hX1 : XC σ (z_set σ 101 4 (nI (x + 1))) := XC_101 (by omega) (by omega)
      have h51 : z_set σ 101 4 (nI (x + 1)) 101 5 = nI H := by rw [s_kn (by omega)]; exact h5
      have hcls : f3_readWork σ = z_bnd (f3_number 0 (nI H - 1) (z_set σ 101 4 (nI (x + 1)))) fun r3 σ4 => z_bnd (f3_kind σ4) fun r5 σ6 => if r5 = 19 then f3_readWork_J44 r3 1 σ6 else f3_readWork_J44 r3 0 σ6 := by
        unfold f3_readWork f3_readWork_J15 f3_begins
        rw [e3_kind hc hN, q_bnd, if_pos q, i_10, h102, h6, if_pos (show nI k < 12 from nI_lt (a := k) (b := 12) (by omega) (by omega)), hc.2.1, nI_1, q_let, q_bnd, h51]
      have e36 : (36 : Int32) + 3 * nI k = nI (36 + 3 * k) := by
        rw [m_3]
        show nI 36 + nI (3 * k) = _
        rw [nI_add]
      have href : ∀ r τ2, f12_readNumber 0 (nI H - 1) τ1 = some (r, τ2) → ∀ m, f12_readWorks_L2 (m + 1) (nI k) τ = if r = -1 then some (-1, z_set τ2 18 (36 + 3 * k) r) else z_bnd (f12_isWord 19 (z_set τ2 18 (36 + 3 * k) r)) fun r8 σ9 => if r8 = 0 then f12_readWorks_J82 (f12_readWorks_L2 m) (nI k) (nI (36 + 3 * k)) (nI (36 + 3 * k + 1)) 0 σ9 else f12_readWorks_J82 (f12_readWorks_L2 m) (nI k) (nI (36 + 3 * k)) (nI (36 + 3 * k + 1)) 1 σ9 := by
        intro r τ2 e m
        conv => lhs; unfold f12_readWorks_L2
        unfold f12_readTold f12_readWord
        rw [w18, q_bnd, i_10, if_neg (show ¬ nI k = 12 from fun z => by (have z : nI k = nI 12 := z; rw [nI_eq (by omega) (by omega)] at z; omega)), w18, q_bnd, i_10, y1, q_bnd, q_bnd, if_neg (by decide), e6, e, q_bnd, q_bnd, e36, k_cin _ (by omega) (by omega), q_ix (by omega), q_let, k_cin _ (by omega) (by omega), s_eq, nI_1]
      rcases r_number (lo := 0) (hi := nI H - 1) hB hc1 y3 h21 with ⟨h, τ2, z0, z1, z2, z3, z4, z5, z6, z7, z8⟩ | ⟨f, z1, z2, z3⟩
      · have hh := hi_lt hH z1 z4
        have hc2 := AC_next hc1 z0
        have h22 : z_set (z_set σ 101 4 (nI (x + 1))) 101 4 (nI (x + 1 + 1)) 101 2 = 0 := by rw [s_kn (by omega)]; exact h21
        have hX2 : XC σ (z_set (z_set σ 101 4 (nI (x + 1))) 101 4 (nI (x + 1 + 1))) := XC_trans hX1 (XC_101 (by omega) (by omega))
        have h1022 : z_set (z_set σ 101 4 (nI (x + 1))) 101 4 (nI (x + 1 + 1)) 102 2 = nI k := by rw [s_ne (by omega), s_ne (by omega)]; exact h102
        have hm2 : AM n b P K V L (x + 1 + 1) (z_set τ2 18 (36 + 3 * k) (nI h)) := AM_cong z8 (s_ne (by omega)) (s_ne (by omega)) (fun k _ _ => by rw [s_ne (by omega)])
        have hm3 : ∀ v, AM n b P K V L (x + 1 + 1) (z_set (z_set τ2 18 (36 + 3 * k) (nI h)) 18 (36 + 3 * k + 1) v) := fun v => AM_cong hm2 (s_ne (by omega)) (s_ne (by omega)) (fun k _ _ => by rw [s_ne (by omega)])
        have w19 : f12_isWord 19 (z_set τ2 18 (36 + 3 * k) (nI h)) = some (if K (x + 1 + 1) = 19 then 1 else 0, z_set τ2 18 (36 + 3 * k) (nI h)) := e12_isWord (j := 19) hm2 (by omega)
        have hXm : XM τ (z_set τ2 18 (36 + 3 * k) (nI h)) := XM_trans (XM_MF y2) (XM_trans (XM_MF z7) (XM_18 (by omega)))
        rw [hcls, z5, q_bnd, e3_kind hc2 hN, q_bnd]
        have hmain : ∀ w, w = 0 ∨ w = 1 → K (x + 1 + 1) = nI (20 - w) → f3_readWork_J57 (nI h) (nI w) (nI (20 - w)) (z_set (z_set σ 101 4 (nI (x + 1))) 101 4 (nI (x + 1 + 1))) = (if K (x + 1 + 1) = 19 then f3_readWork_J44 (nI h) 1 (z_set (z_set σ 101 4 (nI (x + 1))) 101 4 (nI (x + 1 + 1))) else f3_readWork_J44 (nI h) 0 (z_set (z_set σ 101 4 (nI (x + 1))) 101 4 (nI (x + 1 + 1)))) → (∀ m, f12_readWorks_L2 (m + 1) (nI k) τ = f12_readWorks_J107 (f12_readWorks_L2 m) (nI k) (nI (36 + 3 * k)) (z_set (z_set τ2 18 (36 + 3 * k) (nI h)) 18 (36 + 3 * k + 1) (nI w))) → (∃ σ' τ' x', k < 12 ∧ (if K (x + 1 + 1) = 19 then f3_readWork_J44 (nI h) 1 (z_set (z_set σ 101 4 (nI (x + 1))) 101 4 (nI (x + 1 + 1))) else f3_readWork_J44 (nI h) 0 (z_set (z_set σ 101 4 (nI (x + 1))) 101 4 (nI (x + 1 + 1)))) = some ((), σ') ∧ (∀ m, f12_readWorks_L2 (m + 1) (nI k) τ = f12_readWorks_L2 m (nI (k + 1)) τ') ∧ AC N K V L x' σ' ∧ (σ' 101 2 = 0 ∧ σ' 101 3 = σ 101 3) ∧ AM n b P K V L x' τ' ∧ XC σ σ' ∧ XM τ τ' ∧ σ' 102 2 = nI (k + 1) ∧ (∀ s, s ≠ 2 → σ' 102 s = σ 102 s) ∧ DW H (k + 1) σ' τ') ∨ ∃ σ' τ', (if K (x + 1 + 1) = 19 then f3_readWork_J44 (nI h) 1 (z_set (z_set σ 101 4 (nI (x + 1))) 101 4 (nI (x + 1 + 1))) else f3_readWork_J44 (nI h) 0 (z_set (z_set σ 101 4 (nI (x + 1))) 101 4 (nI (x + 1 + 1)))) = some ((), σ') ∧ (∀ m, f12_readWorks_L2 (m + 1) (nI k) τ = some (-1, τ')) ∧ Fa σ τ σ' τ' := by
          intro w hw hkx e1 e2
          rw [← e1]
          rcases r_work57 (h := h) (k := k) (w := w) hB hc2 (hm3 (nI w)) h22 hkl h1022 hw hkx with ⟨σ', τ', t, x', t1, a1, a2, a3, a4, a5, a6, a7, a8, a9, a10, a11, a12, a13, a14, a15⟩ | ⟨σ', τ', a1, a2, f, p, f1, f2, f3, f4, f5, f6, f7⟩
          · left
            have o : ∀ i, i ≠ 36 + 3 * k → i ≠ 36 + 3 * k + 1 → i ≠ 36 + 3 * k + 2 → τ' 18 i = τ 18 i := fun i i1 i2 i3 => by rw [a15 i i3, s_kn i2, s_kn i1, z7.1 18 (by omega), y2.1 18 (by omega)]
            have c103 : ∀ i, i < 5 * k → σ' 103 i = σ 103 i := fun i hi => by rw [a10 i hi, s_ne (by omega), s_ne (by omega)]
            refine ⟨σ', τ', x', hkl, a1, fun m => by rw [e2 m]; exact a2 _, a3, ⟨a4.1, by rw [a4.2, s_kn (by omega), s_kn (by omega)]⟩, a5, XC_trans hX2 a6, XM_trans hXm (XM_trans (XM_18 (by omega)) a7), a8, fun s hs => by rw [a9 s hs, s_ne (by omega), s_ne (by omega)], fun i hi => ?_⟩
            by_cases ei : i = k
            · subst ei
              rw [a11, a12, a13, a14, a15 _ (by omega), a15 _ (by omega), s_kn (by omega), s_eq, s_eq]
              refine ⟨⟨rfl, rfl, rfl⟩, ⟨h, hh, rfl⟩, ?_, t, t1, rfl⟩
              rcases hw with rfl | rfl
              · exact .inl rfl
              · exact .inr rfl
            · have hi' : i < k := by omega
              rw [c103 _ (by omega), c103 _ (by omega), c103 _ (by omega), o _ (by omega) (by omega) (by omega), o _ (by omega) (by omega) (by omega), o _ (by omega) (by omega) (by omega)]
              exact hD i hi'
          · right
            exact ⟨σ', τ', a1, fun m => by rw [e2 m]; exact a2 _, f, p, f1, f2, f3, f4, f5, XC_trans hX2 f6, XM_trans hXm (XM_trans (XM_18 (by omega)) f7)⟩
        by_cases q19 : K (x + 1 + 1) = 19
        · rw [if_pos q19] at w19
          have w19b : f12_isWord 19 (z_set (z_set τ2 18 (36 + 3 * k) (nI h)) 18 (36 + 3 * k + 1) 1) = some (if K (x + 1 + 1) = 19 then 1 else 0, z_set (z_set τ2 18 (36 + 3 * k) (nI h)) 18 (36 + 3 * k + 1) 1) := e12_isWord (j := 19) (hm3 1) (by omega)
          rw [if_pos q19] at w19b
          refine hmain 1 (.inr rfl) q19 (by rw [if_pos q19]; rfl) (fun m => ?_)
          rw [href _ _ z6 m, if_neg (q_neg (by omega)), w19, q_bnd, i_10]
          unfold f12_readWorks_J82
          rw [k_cin _ (by omega) (by omega), q_ix (by omega), q_let, w19b, q_bnd, i_10]
          rfl
        · rw [if_neg q19] at w19
          have w19b : f12_isWord 19 (z_set (z_set τ2 18 (36 + 3 * k) (nI h)) 18 (36 + 3 * k + 1) 0) = some (if K (x + 1 + 1) = 19 then 1 else 0, z_set (z_set τ2 18 (36 + 3 * k) (nI h)) 18 (36 + 3 * k + 1) 0) := e12_isWord (j := 19) (hm3 0) (by omega)
          have w20 : f12_isWord 20 (z_set (z_set τ2 18 (36 + 3 * k) (nI h)) 18 (36 + 3 * k + 1) 0) = some (if K (x + 1 + 1) = 20 then 1 else 0, z_set (z_set τ2 18 (36 + 3 * k) (nI h)) 18 (36 + 3 * k + 1) 0) := e12_isWord (j := 20) (hm3 0) (by omega)
          rw [if_neg q19] at w19b
          have hr : ∀ m, f12_readWorks_L2 (m + 1) (nI k) τ = if K (x + 1 + 1) = 20 then f12_readWorks_J107 (f12_readWorks_L2 m) (nI k) (nI (36 + 3 * k)) (z_set (z_set τ2 18 (36 + 3 * k) (nI h)) 18 (36 + 3 * k + 1) 0) else some (-1, FM (z_set (z_set τ2 18 (36 + 3 * k) (nI h)) 18 (36 + 3 * k + 1) 0) 1 (L (x + 1 + 1))) := by
            intro m
            rw [href _ _ z6 m, if_neg (q_neg (by omega)), w19, q_bnd, i_00]
            unfold f12_readWorks_J82 f12_readWorks_J101
            rw [k_cin _ (by omega) (by omega), q_ix (by omega), q_let, w19b, q_bnd, i_00, w20, q_bnd, e12_errs (hm3 0), q_bnd]
            by_cases q20 : K (x + 1 + 1) = 20
            · rw [if_pos q20, if_pos q20, i_10]
            · rw [if_neg q20, if_neg q20, i_00]
          by_cases q20 : K (x + 1 + 1) = 20
          · exact hmain 0 (.inl rfl) q20 (by rw [if_neg q19]; rfl) (fun m => by rw [hr m, if_pos q20]; rfl)
          · right
            rw [if_neg q19]
            refine ⟨FC (z_set (z_set σ 101 4 (nI (x + 1))) 101 4 (nI (x + 1 + 1))) 1 (L (x + 1 + 1)), _, ?_, fun m => by rw [hr m, if_neg q20], Fa_of (by decide) hX2 (XM_trans hXm (XM_18 (by omega)))⟩
            unfold f3_readWork_J44 f3_readWork_J57 f3_readWork_J79
            have hF := FC_f (σ := z_set (z_set σ 101 4 (nI (x + 1))) 101 4 (nI (x + 1 + 1))) (f := 1) (p := L (x + 1 + 1)) (by decide)
            rw [i_00, e3_takes hc2 hN h22, if_neg q20, q_bnd, e3_numberF hF, q_bnd, i_00, e3_finishF hF, q_bnd]
      · right
        refine ⟨FC (z_set σ 101 4 (nI (x + 1))) f (L (x + 1)), z_set (FM τ1 f (L (x + 1))) 18 (36 + 3 * k) (-1), ?_, fun m => by rw [href _ _ z3 m, if_pos rfl], f, L (x + 1), z1, FC_at.1, FC_at.2, by rw [s_ne (by omega)]; exact FM_at.1, by rw [s_ne (by omega)]; exact FM_at.2, XC_trans hX1 XC_FC, XM_trans (XM_MF y2) (XM_trans XM_FM (XM_18 (by omega)))⟩
        rw [hcls, z2, q_bnd, e3_kind (AC_FC hc1) hN, q_bnd, e3_work44F (FC_f z1), e3_work44F (FC_f z1), ite_self]
  · right
    rw [if_neg q] at w18
    refine ⟨FC σ 1 (L x), FM τ 1 (L x), ?_, fun m => ?_, Fa_of (by decide) (XC_refl _) (XM_refl _)⟩
    · unfold f3_readWork f3_readWork_J15 f3_begins
      rw [e3_kind hc hN, q_bnd, if_neg q, i_00, hc.2.1, e3_fail hc hN (by omega) h2, q_bnd, q_bnd]
      exact e3_workF (AC_FC hc) hN (FC_f (by decide))
    · unfold f12_readWorks_L2 f12_readWorks_J157
      rw [w18, q_bnd, i_00, if_neg (fun z => hend ((AM_end hm).mp z)), e12_errs hm, q_bnd]
