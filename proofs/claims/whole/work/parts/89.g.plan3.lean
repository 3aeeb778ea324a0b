/-! one line of the plan, all lines -/
section
variable {n N : Nat} {b P : Nat → Nat} {K V L : Nat → Int32}
theorem e3_p72N {x : Nat} {w k : Int32} {σ τ : z_M} (hB : TkB n b N P K V L) (h : Bo n N b P K V L x σ τ) (a : ¬ K x = 22) : f3_readPlan_J72 w k 22 σ = some ((), FC σ 1 (L x)) := by
  have hF := FC_f (σ := σ) (f := 1) (p := L x) (by decide)
  unfold f3_readPlan_J72
  rw [e3_takes h.1 (Bo_N hB h).2 h.2.2, if_neg a, q_bnd, e3_numberF hF, q_bnd, e3_p106F hF, e3_takesF hF, q_bnd, e3_numberF hF, q_bnd, e3_p180F hF, e3_p180F hF, ite_self, ite_self, ite_self]
theorem e3_p72P {w v2 s1 : Int32} {σ : z_M} : f3_readPlan_J72 w v2 s1 σ = z_bnd (f3_takes s1 σ) fun _ σ2 => z_bnd (f3_number 0 ((σ2 101 5) - 1) σ2) fun r3 σ4 => PC w v2 r3 σ4 := rfl
/-- from the deed's word on -/
theorem r_p72 {x k d H : Nat} {w : Int32} {σ τ : z_M} (hB : TkB n b N P K V L) (h : Bo n N b P K V L x σ τ) (hd : d < 4) (hk : k < 16) (hkx : K x = nI (dk d)) (h102 : σ 102 2 = nI k) (hH : H ≤ 8) (h5 : σ 101 5 = nI H) (e6 : τ 0 6 = nI H) : (∃ σ' τ' x' hh a c, hh < H ∧ PB d a c ∧ f3_readPlan_J72 w (nI (dk d)) (nI (dk d)) σ = some ((), σ') ∧ f12_readPlanLine_J55 (nI (80 + 5 * k)) (nI (80 + 5 * k + 1)) (nI d) τ = some (0, τ') ∧ Bo n N b P K V L x' σ' τ' ∧ LA k w (nI (dk d)) (nI hh) (nI a) (nI c) σ σ' ∧ XM τ τ' ∧ (∀ i, i < 80 + 5 * k + 1 → τ' 19 i = τ 19 i) ∧ τ' 19 (80 + 5 * k + 1) = nI d ∧ τ' 19 (80 + 5 * k + 2) = nI hh ∧ τ' 19 (80 + 5 * k + 3) = nI a ∧ τ' 19 (80 + 5 * k + 4) = nI c) ∨ ∃ σ' τ', f3_readPlan_J72 w (nI (dk d)) (nI (dk d)) σ = some ((), σ') ∧ f12_readPlanLine_J55 (nI (80 + 5 * k)) (nI (80 + 5 * k + 1)) (nI d) τ = some (-1, τ') ∧ FA N K V L σ τ σ' τ' := by
  have e2 : nI (80 + 5 * k) + 2 = nI (80 + 5 * k + 2) := by show _ + nI 2 = _; rw [nI_add]
  have e3 : nI (80 + 5 * k) + 3 = nI (80 + 5 * k + 3) := by show _ + nI 3 = _; rw [nI_add]
  have e4 : nI (80 + 5 * k) + 4 = nI (80 + 5 * k + 4) := by show _ + nI 4 = _; rw [nI_add]
  have hdk : dk d < 43 := by
    have hd : d = 0 ∨ d = 1 ∨ d = 2 ∨ d = 3 := by omega
    rcases hd with rfl | rfl | rfl | rfl <;> decide
  have h1 : Bo n N b P K V L x σ (z_set τ 19 (80 + 5 * k + 1) (nI d)) := Bo_set h (by omega)
  obtain ⟨τ2, y1, y2, y3⟩ := Bo_next hB h1 (k43 hdk hkx)
  have e62 : τ2 0 6 = nI H := by rw [y2.2 6 (by omega), s_ne (by omega)]; exact e6
  have hX2 : XM τ τ2 := XM_trans (XM_19 (by omega)) (XM_MF y2)
  have href : f12_readPlanLine_J55 (nI (80 + 5 * k)) (nI (80 + 5 * k + 1)) (nI d) τ = z_bnd (f12_readNumber 0 (nI H - 1) τ2) fun r6 σ7 => if r6 = -1 then some (-1, z_set σ7 19 (80 + 5 * k + 2) r6) else PT k (z_set (z_set (z_set σ7 19 (80 + 5 * k + 2) r6) 19 (80 + 5 * k + 3) 0) 19 (80 + 5 * k + 4) 0) := by
    unfold f12_readPlanLine_J55 PT
    rw [nI_1, e2, e3, e4, k_cin _ (by omega) (by omega), q_ix (by omega), q_let, k_cin _ (by omega) (by omega), s_eq, if_neg (q_neg (by omega)), y1, q_bnd, e62]
    rcases f12_readNumber 0 (nI H - 1) τ2 with _ | ⟨r, s⟩
    · rfl
    · rw [q_bnd, q_bnd, k_cin _ (by omega) (by omega), q_ix (by omega), q_let, k_cin _ (by omega) (by omega), s_eq, k_cin _ (by omega) (by omega), q_ix (by omega), q_let, k_cin _ (by omega) (by omega), q_ix (by omega), q_let]
  rw [e3_p72P, href, e3_takes h.1 (Bo_N hB h).2 h.2.2, if_pos hkx, q_bnd, s_kn (by omega), h5]
  rcases g_number 0 (nI H - 1) hB y3 with ⟨hh, σ4, τ4, z1, -, z3, z4, z5, z6, z7, z8, z9⟩ | ⟨σ4, τ4, z1, z2, z3⟩
  · have hhH := hi_lt hH z1 z4
    have hTF : QF σ σ4 := QF_trans QF_set z7
    rw [z5, q_bnd, z6, q_bnd, if_neg (q_neg (by omega))]
    have h9 : Bo n N b P K V L (x + 1 + 1) σ4 (z_set (z_set (z_set τ4 19 (80 + 5 * k + 2) (nI hh)) 19 (80 + 5 * k + 3) 0) 19 (80 + 5 * k + 4) 0) := Bo_set (Bo_set (Bo_set z9 (by omega)) (by omega)) (by omega)
    have hX9 : XM τ (z_set (z_set (z_set τ4 19 (80 + 5 * k + 2) (nI hh)) 19 (80 + 5 * k + 3) 0) 19 (80 + 5 * k + 4) 0) := XM_trans hX2 (XM_trans (XM_MF z8) (XM_trans (XM_19 (by omega)) (XM_trans (XM_19 (by omega)) (XM_19 (by omega)))))
    have o : ∀ i, i ≤ 80 + 5 * k + 1 → z_set (z_set (z_set τ4 19 (80 + 5 * k + 2) (nI hh)) 19 (80 + 5 * k + 3) 0) 19 (80 + 5 * k + 4) 0 19 i = if i = 80 + 5 * k + 1 then nI d else τ 19 i := fun i hi => by
      rw [s_kn (by omega), s_kn (by omega), s_kn (by omega), z8.1 19 (by omega), y2.1 19 (by omega)]
      by_cases q : i = 80 + 5 * k + 1
      · rw [if_pos q, q, s_eq]
      · rw [if_neg q, s_kn q]
    have o1 : z_set (z_set (z_set τ4 19 (80 + 5 * k + 2) (nI hh)) 19 (80 + 5 * k + 3) 0) 19 (80 + 5 * k + 4) 0 19 (80 + 5 * k + 1) = nI d := by rw [o _ (by omega), if_pos rfl]
    have o2 : z_set (z_set (z_set τ4 19 (80 + 5 * k + 2) (nI hh)) 19 (80 + 5 * k + 3) 0) 19 (80 + 5 * k + 4) 0 19 (80 + 5 * k + 2) = nI hh := by rw [s_kn (by omega), s_kn (by omega), s_eq]
    have o3 : z_set (z_set (z_set τ4 19 (80 + 5 * k + 2) (nI hh)) 19 (80 + 5 * k + 3) 0) 19 (80 + 5 * k + 4) 0 19 (80 + 5 * k + 3) = nI 0 := by rw [s_kn (by omega), s_eq]; rfl
    have o4 : z_set (z_set (z_set τ4 19 (80 + 5 * k + 2) (nI hh)) 19 (80 + 5 * k + 3) 0) 19 (80 + 5 * k + 4) 0 19 (80 + 5 * k + 4) = nI 0 := by rw [s_eq]; rfl
    rcases r_deed (w := w) (h := nI hh) hB h9 hd hk (by rw [hTF.1 102 (by omega)]; exact h102) o1 o3 o4 with ⟨σ', τ', x', a, c, g1, g2, g3, g4, g5, g6, g7, g8⟩ | ⟨σ', τ', g1, g2, g3⟩
    · refine .inl ⟨σ', τ', x', hh, a, c, hhH, g1, g2, g3, g4, LA_QF hTF g5, XM_trans hX9 g6.1, fun i hi => ?_, ?_, ?_, g7, g8⟩
      · rw [g6.2 i (by omega) (by omega), o i (by omega), if_neg (by omega)]
      · rw [g6.2 _ (by omega) (by omega)]; exact o1
      · rw [g6.2 _ (by omega) (by omega)]; exact o2
    · exact .inr ⟨σ', τ', g1, g2, FA_QF hTF hX9 g3⟩
  · right
    have hF := FA_ne z3
    rw [z1, q_bnd, z2, q_bnd, if_pos rfl]
    refine ⟨σ4, _, ?_, rfl, FA_QF QF_set hX2 (FA_after z3 (XM_19 (by omega)) (by rw [s_ne (by omega)]) (by rw [s_ne (by omega)]))⟩
    unfold PC
    rw [e3_p106F hF, e3_takesF hF, q_bnd, e3_numberF hF, q_bnd, e3_p180F hF, e3_p180F hF, ite_self, ite_self, ite_self]
/-- one line, from its first word on -/
theorem r_line3 {x k H : Nat} {σ τ : z_M} (hB : TkB n b N P K V L) (h : Bo n N b P K V L x σ τ) (hk : k < 16) (q : K x = 21) (h102 : σ 102 2 = nI k) (h6 : σ 101 6 = 16) (hH : H ≤ 8) (h5 : σ 101 5 = nI H) (e6 : τ 0 6 = nI H) : (∃ σ' τ' x' d w hh a c, d < 4 ∧ w ≤ 999 ∧ hh < H ∧ PB d a c ∧ f3_readPlan σ = some ((), σ') ∧ f12_readPlanLine (nI (80 + 5 * k)) τ = some (0, τ') ∧ Bo n N b P K V L x' σ' τ' ∧ LA k (nI w) (nI (dk d)) (nI hh) (nI a) (nI c) σ σ' ∧ XM τ τ' ∧ (∀ i, i < 80 + 5 * k → τ' 19 i = τ 19 i) ∧ τ' 19 (80 + 5 * k) = nI w ∧ τ' 19 (80 + 5 * k + 1) = nI d ∧ τ' 19 (80 + 5 * k + 2) = nI hh ∧ τ' 19 (80 + 5 * k + 3) = nI a ∧ τ' 19 (80 + 5 * k + 4) = nI c) ∨ ∃ σ' τ', f3_readPlan σ = some ((), σ') ∧ f12_readPlanLine (nI (80 + 5 * k)) τ = some (-1, τ') ∧ FA N K V L σ τ σ' τ' := by
  obtain ⟨hx, hN⟩ := Bo_N hB h
  have w21 : f12_isWord 21 τ = some (if K x = 21 then 1 else 0, τ) := e12_isWord (j := 21) h.2.1 (by omega)
  rw [if_pos q] at w21
  obtain ⟨τ1, y1, y2, y3⟩ := Bo_next hB h (by rw [q]; decide)
  have hcls : f3_readPlan σ = z_bnd (f3_number 0 999 (z_set σ 101 4 (nI (x + 1)))) fun r3 σ4 => z_bnd (f3_kind σ4) fun r5 σ6 => if r5 = 22 then f3_readPlan_J60 r3 r5 1 σ6 else if r5 = 2 then f3_readPlan_J60 r3 r5 1 σ6 else if r5 = 25 then f3_readPlan_J60 r3 r5 1 σ6 else if r5 = 26 then f3_readPlan_J60 r3 r5 1 σ6 else f3_readPlan_J60 r3 r5 0 σ6 := by
    unfold f3_readPlan f3_readPlan_J15 f3_begins
    rw [Bo_kind hB h, q_bnd, if_pos q, i_10, h102, h6, if_pos (show nI k < 16 from nI_lt (a := k) (b := 16) (by omega) (by omega)), h.1.2.1, nI_1, q_let, q_bnd]
  have href : ∀ r τ2, f12_readNumber 0 999 τ1 = some (r, τ2) → f12_readPlanLine (nI (80 + 5 * k)) τ = if r = -1 then some (-1, z_set τ2 19 (80 + 5 * k) r) else if z_set τ2 19 (80 + 5 * k) r 0 17 = 2 then z_bnd (f12_kindOf (z_set τ2 19 (80 + 5 * k) r 0 18) (z_set τ2 19 (80 + 5 * k) r)) fun r6 σ7 => f12_readPlanLine_J55 (nI (80 + 5 * k)) (nI (80 + 5 * k + 1)) r6 σ7 else f12_readPlanLine_J55 (nI (80 + 5 * k)) (nI (80 + 5 * k + 1)) (-1) (z_set τ2 19 (80 + 5 * k) r) := by
    intro r τ2 e
    unfold f12_readPlanLine f12_readTold f12_readWord
    rw [w21, q_bnd, i_10, y1, q_bnd, q_bnd, if_neg (show ¬ (0 : Int32) = -1 by decide), e, q_bnd, q_bnd, k_cin _ (by omega) (by omega), q_ix (by omega), q_let, k_cin _ (by omega) (by omega), s_eq, nI_1]
  rcases g_number 0 999 hB y3 with ⟨w, σ2, τ2, z1, -, z3, z4, z5, z6, z7, z8, z9⟩ | ⟨σ2, τ2, z1, z2, z3⟩
  · have hw := le_of_n (h := 999) z1 (by omega) z4
    have h3 : Bo n N b P K V L (x + 1 + 1) σ2 (z_set τ2 19 (80 + 5 * k) (nI w)) := Bo_set z9 (by omega)
    have hTF : QF σ σ2 := QF_trans QF_set z7
    have hX3 : XM τ (z_set τ2 19 (80 + 5 * k) (nI w)) := XM_trans (XM_MF y2) (XM_trans (XM_MF z8) (XM_19 (by omega)))
    have hX3o : ∀ i, i < 80 + 5 * k → z_set τ2 19 (80 + 5 * k) (nI w) 19 i = τ 19 i := fun i hi => by rw [s_kn (by omega), z8.1 19 (by omega), y2.1 19 (by omega)]
    have h3w : z_set τ2 19 (80 + 5 * k) (nI w) 19 (80 + 5 * k) = nI w := s_eq
    rw [hcls, z5, q_bnd, Bo_kind hB h3, q_bnd, href _ _ z6, if_neg (q_neg (by omega))]
    have e63 : z_set τ2 19 (80 + 5 * k) (nI w) 0 6 = nI H := by rw [s_ne (by omega), z8.2 6 (by omega), y2.2 6 (by omega)]; exact e6
    generalize z_set τ2 19 (80 + 5 * k) (nI w) = τ3 at h3 hX3 hX3o h3w e63
    have hno : ¬ K (x + 1 + 1) = 22 → (∃ σ' τ', f3_readPlan_J72 (nI w) (K (x + 1 + 1)) 22 σ2 = some ((), σ') ∧ f12_readPlanLine_J55 (nI (80 + 5 * k)) (nI (80 + 5 * k + 1)) (-1) τ3 = some (-1, τ') ∧ FA N K V L σ τ σ' τ') := fun a => by
      refine ⟨_, FM (z_set τ3 19 (80 + 5 * k + 1) (-1)) 1 (L (x + 1 + 1)), e3_p72N hB h3 a, ?_, FA_QF hTF (XM_trans hX3 (XM_19 (by omega))) (FA_here h3.1 (by decide))⟩
      unfold f12_readPlanLine_J55
      rw [nI_1, k_cin _ (by omega) (by omega), q_ix (by omega), q_let, k_cin _ (by omega) (by omega), s_eq, if_pos rfl, Bo_errs (Bo_set h3 (by omega)), q_bnd]
    rcases AM_wd h3.2.1 with ⟨j, hj, a1, a2, a3⟩ | ⟨a1, a2⟩
    · rw [if_pos a2, a3, e12_kindOf, q_bnd]
      by_cases hd : ∃ d, d < 4 ∧ j = dk d
      · obtain ⟨d, hd, rfl⟩ := hd
        rw [v_dk (dk d) hj d hd rfl, a1, e3_five hd]
        rcases r_p72 (w := nI w) (k := k) hB h3 hd hk a1 (by rw [hTF.1 102 (by omega)]; exact h102) hH (by rw [hTF.2 5 (by omega)]; exact h5) e63 with ⟨σ', τ', x', hh, a, c, c1, c2, c3, c4, c5, c6, c7, c8, c9, c10, c11, c12⟩ | ⟨σ', τ', c1, c2, c3⟩
        · exact .inl ⟨σ', τ', x', d, w, hh, a, c, hd, hw, c1, c2, c3, c4, c5, LA_QF hTF c6, XM_trans hX3 c7, fun i hi => by rw [c8 i (by omega)]; exact hX3o i hi, by rw [c8 _ (by omega)]; exact h3w, c9, c10, c11, c12⟩
        · exact .inr ⟨σ', τ', c1, c2, FA_QF hTF hX3 c3⟩
      · right
        have n22 : j ≠ 22 := fun e => hd ⟨0, by omega, e⟩
        have n25 : j ≠ 25 := fun e => hd ⟨1, by omega, e⟩
        have n2 : j ≠ 2 := fun e => hd ⟨2, by omega, e⟩
        have n26 : j ≠ 26 := fun e => hd ⟨3, by omega, e⟩
        have ne : ∀ i, i < 28 → j ≠ i → ¬ K (x + 1 + 1) = nI i := fun i hi e z => by
          rw [a1, nI_eq (by omega) (by omega)] at z; exact e z
        rw [v_dn j hj ⟨n22, n25, n2, n26⟩, e3_none (ne 22 (by omega) n22) (ne 2 (by omega) n2) (ne 25 (by omega) n25) (ne 26 (by omega) n26)]
        exact hno (ne 22 (by omega) n22)
    · right
      rw [if_neg a2, e3_none (a1 22 (by omega)) (a1 2 (by omega)) (a1 25 (by omega)) (a1 26 (by omega))]
      exact hno (a1 22 (by omega))
  · right
    obtain ⟨y, hy⟩ := z3.2.1
    have hF := FA_ne z3
    rw [hcls, z1, q_bnd, e3_kind hy hN, q_bnd, e3_p60F hF, e3_p60F hF, ite_self, ite_self, ite_self, ite_self, href _ _ z2, if_pos rfl]
    exact ⟨σ2, _, rfl, rfl, FA_QF QF_set (XM_MF y2) (FA_after z3 (XM_19 (by omega)) (by rw [s_ne (by omega)]) (by rw [s_ne (by omega)]))⟩
def DP (H k : Nat) (σ τ : z_M) : Prop := ∀ i, i < k → (τ 19 (80 + 5 * i) = σ 103 (5 * i) ∧ τ 19 (80 + 5 * i + 2) = σ 103 (5 * i + 2) ∧ τ 19 (80 + 5 * i + 3) = σ 103 (5 * i + 3) ∧ τ 19 (80 + 5 * i + 4) = σ 103 (5 * i + 4)) ∧ (∃ w, w ≤ 999 ∧ σ 103 (5 * i) = nI w) ∧ (∃ h, h < H ∧ σ 103 (5 * i + 2) = nI h) ∧
  ((σ 103 (5 * i + 1) = 22 ∧ τ 19 (80 + 5 * i + 1) = 0 ∧ (∃ t, t < 8 ∧ σ 103 (5 * i + 3) = nI t) ∧ ∃ t, t ≤ 9 ∧ σ 103 (5 * i + 4) = nI t) ∨ (σ 103 (5 * i + 1) = 25 ∧ τ 19 (80 + 5 * i + 1) = 1) ∨ (σ 103 (5 * i + 1) = 2 ∧ τ 19 (80 + 5 * i + 1) = 2 ∧ ∃ t, 1 ≤ t ∧ t ≤ 99 ∧ σ 103 (5 * i + 3) = nI t) ∨ (σ 103 (5 * i + 1) = 26 ∧ τ 19 (80 + 5 * i + 1) = 3 ∧ (∃ t, t < 8 ∧ σ 103 (5 * i + 3) = nI t) ∧ ∃ t, t ≤ 100 ∧ σ 103 (5 * i + 4) = nI t))
def IP (H n N : Nat) (b P : Nat → Nat) (K V L : Nat → Int32) (k x : Nat) (σ τ : z_M) : Prop := Bo n N b P K V L x σ τ ∧ k ≤ 16 ∧ σ 101 3 = -1 ∧ σ 101 6 = 16 ∧ σ 102 2 = nI k ∧ σ 102 3 = 0 ∧ σ 101 5 = nI H ∧ τ 0 6 = nI H ∧ DP H k σ τ
theorem r_plan1 {k x H : Nat} {σ τ : z_M} (hB : TkB n b N P K V L) (hH : H ≤ 8) (hI : IP H n N b P K V L k x σ τ) (hend : ¬ K x = 43) : (∃ σ' τ' x', k < 16 ∧ f3_readPlan σ = some ((), σ') ∧ (∀ m, f12_readPlan_L2 (m + 1) (nI k) τ = f12_readPlan_L2 m (nI (k + 1)) τ') ∧ IP H n N b P K V L (k + 1) x' σ' τ' ∧ XC σ σ' ∧ XM τ τ') ∨ ∃ σ' τ', f3_readPlan σ = some ((), σ') ∧ (∀ m, f12_readPlan_L2 (m + 1) (nI k) τ = some (-1, τ')) ∧ Fa σ τ σ' τ' := by
  obtain ⟨h, hk, h3, h6, h102, h0, h5, e6, hD⟩ := hI
  obtain ⟨hx, hN⟩ := Bo_N hB h
  have w21 : f12_isWord 21 τ = some (if K x = 21 then 1 else 0, τ) := e12_isWord (j := 21) h.2.1 (by omega)
  by_cases q : K x = 21
  · rw [if_pos q] at w21
    by_cases k16 : k = 16
    · right
      refine ⟨FC σ 3 (L x), FM τ 3 (L x), ?_, fun m => ?_, (FA_here h.1 (by decide)).1⟩
      · unfold f3_readPlan f3_readPlan_J15 f3_begins
        rw [Bo_kind hB h, q_bnd, if_pos q, i_10, h102, h6, if_neg (show ¬ nI k < 16 from nI_nlt (a := k) (b := 16) (by omega) (by omega)), Bo_fail 3 hB h, q_bnd, q_bnd]
        exact e3_planF (AC_FC h.1) hN (FC_f (by decide))
      · unfold f12_readPlan_L2 f12_readPlan_J17
        rw [w21, q_bnd, i_10, k16, if_pos (show nI 16 = 16 from rfl), Bo_errs h, q_bnd]
    · have hk' : k < 16 := by omega
      have e80 : (80 : Int32) + 5 * nI k = nI (80 + 5 * k) := by
        rw [show (5 : Int32) * nI k = nI (5 * k) from by rw [l_5, pk_mul]]
        show nI 80 + nI (5 * k) = _
        rw [nI_add]
      have hloop : ∀ m, f12_readPlan_L2 (m + 1) (nI k) τ = z_bnd (f12_readPlanLine (nI (80 + 5 * k)) τ) fun r3 σ4 => if r3 = (-1) then some ((-1), σ4) else f12_readPlan_L2 m (nI (k + 1)) σ4 := by
        intro m
        conv => lhs; unfold f12_readPlan_L2
        rw [w21, q_bnd, i_10, if_neg (show ¬ nI k = 16 from fun z => by (have z : nI k = nI 16 := z; rw [nI_eq (by omega) (by omega)] at z; omega)), e80, nI_1]
      rcases r_line3 hB h hk' q h102 h6 hH h5 e6 with ⟨σ', τ', x', d, w, hh, a, c, c1, c2, c3, c4, c5, c6, c7, c8, c9, c10, c11, c12, c13, c14, c15⟩ | ⟨σ', τ', c1, c2, c3⟩
      · left
        obtain ⟨l1, l2, l3, l4, l5, l6, l7, l8, l9, l10, l11⟩ := c8
        refine ⟨σ', τ', x', hk', c5, fun m => by rw [hloop m, c6, q_bnd, if_neg (show ¬ (0 : Int32) = -1 by decide)], ⟨c7, by omega, l2.trans h3, l1.2.2.trans h6, l4, (l5 3 (by omega)).trans h0, l1.2.1.trans h5, (c9.2.1 6 (by omega)).trans e6, fun i hi => ?_⟩, l1, c9⟩
        by_cases ei : i = k
        · subst ei
          rw [l7, l8, l9, l10, l11, c11, c12, c13, c14, c15]
          refine ⟨⟨rfl, rfl, rfl, rfl⟩, ⟨w, c2, rfl⟩, ⟨hh, c3, rfl⟩, ?_⟩
          rcases c4 with ⟨rfl, p1, p2⟩ | rfl | ⟨rfl, p1, p2⟩ | ⟨rfl, p1, p2⟩
          · exact .inl ⟨rfl, rfl, ⟨a, p1, rfl⟩, c, p2, rfl⟩
          · exact .inr (.inl ⟨rfl, rfl⟩)
          · exact .inr (.inr (.inl ⟨rfl, rfl, a, p1, p2, rfl⟩))
          · exact .inr (.inr (.inr ⟨rfl, rfl, ⟨a, p1, rfl⟩, c, p2, rfl⟩))
        · rw [l6 _ (by omega), l6 _ (by omega), l6 _ (by omega), l6 _ (by omega), l6 _ (by omega), c10 _ (by omega), c10 _ (by omega), c10 _ (by omega), c10 _ (by omega), c10 _ (by omega)]
          exact hD i (by omega)
      · right
        exact ⟨σ', τ', c1, fun m => by rw [hloop m, c2, q_bnd, if_pos rfl], c3.1⟩
  · right
    rw [if_neg q] at w21
    refine ⟨FC σ 1 (L x), FM τ 1 (L x), ?_, fun m => ?_, (FA_here h.1 (by decide)).1⟩
    · unfold f3_readPlan f3_readPlan_J15 f3_begins
      rw [Bo_kind hB h, q_bnd, if_neg q, i_00, Bo_fail 1 hB h, q_bnd, q_bnd]
      exact e3_planF (AC_FC h.1) hN (FC_f (by decide))
    · unfold f12_readPlan_L2 f12_readPlan_J46
      rw [w21, q_bnd, i_00, if_neg (fun z => hend ((AM_end h.2.1).mp z)), Bo_errs h, q_bnd]
theorem r_plan {H : Nat} {σ τ : z_M} (hB : TkB n b N P K V L) (hH : H ≤ 8) (hI : IP H n N b P K V L 0 0 σ τ) : (∃ σ' τ' k' x', k' ≤ 16 ∧ f3_read_L63 z_fu 3 0 σ = some (1, σ') ∧ f12_readPlan τ = some (nI k', τ') ∧ IP H n N b P K V L k' x' σ' τ' ∧ XC σ σ' ∧ XM τ τ') ∨ ∃ σ' τ', f3_read_L63 z_fu 3 0 σ = some (0, σ') ∧ f12_readPlan τ = some (-1, τ') ∧ Fa σ τ σ' τ' := by
  refine g_loop (K := K) (v1 := 3) (mx := 16) f3_readPlan f12_readPlan_L2 (IP H n N b P K V L) (fun m k x σ τ h => ?_) (fun m k x σ τ h q => ?_) (fun k x σ τ h q => r_plan1 hB hH h q) 16 0 0 z_fu z_fu σ τ (by omega) (by decide) (by decide) hI
  · rw [g_cls (mx := 16) hB h.1 h.2.1 (by omega) h.2.2.2.1, if_neg (show ¬ (3 : Int32) = 0 by decide), if_neg (show ¬ (3 : Int32) = 1 by decide), if_neg (show ¬ (3 : Int32) = 2 by decide)]
  · have w21 : f12_isWord 21 τ = some (if K x = 21 then 1 else 0, τ) := e12_isWord (j := 21) h.1.2.1 (by omega)
    rw [if_neg (show ¬ K x = 21 by rw [q]; decide)] at w21
    unfold f12_readPlan_L2 f12_readPlan_J46
    rw [w21, q_bnd, i_00, if_pos ((AM_end h.1.2.1).mpr q)]
end
