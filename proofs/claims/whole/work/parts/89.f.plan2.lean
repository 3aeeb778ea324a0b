/-! the plan, line by line -/
section
variable {n N : Nat} {b P : Nat → Nat} {K V L : Nat → Int32}
theorem AM_wd {x : Nat} {τ : z_M} (hm : AM n b P K V L x τ) : (∃ j, j < 28 ∧ K x = nI j ∧ τ 0 17 = 2 ∧ τ 0 18 = nI (wp j)) ∨ ((∀ j, j < 28 → ¬ K x = nI j) ∧ ¬ τ 0 17 = 2) := by
  obtain ⟨-, -, -, -, t⟩ := hm
  rcases t with ⟨a, c⟩ | ⟨a, c⟩ | ⟨a, c, d⟩ | ⟨i, i1, a, c, d⟩ | ⟨i, i1, a, c, d⟩
  · exact .inr ⟨fun j hj z => by (rw [a] at z; have z : nI 43 = nI j := z; rw [nI_eq (by omega) (by omega)] at z; omega), by rw [c]; decide⟩
  · exact .inr ⟨fun j hj z => by (rw [a] at z; have z : nI 44 = nI j := z; rw [nI_eq (by omega) (by omega)] at z; omega), by rw [c]; decide⟩
  · exact .inr ⟨fun j hj z => by (rw [a] at z; have z : nI 42 = nI j := z; rw [nI_eq (by omega) (by omega)] at z; omega), by rw [c]; decide⟩
  · exact .inl ⟨i, i1, a, c, d⟩
  · exact .inr ⟨fun j hj z => by (rw [a] at z; rw [nI_eq (by omega) (by omega)] at z; omega), by rw [c]; decide⟩
/-- what the end of a line of the plan may change of the reference -/
def PF (k : Nat) (τ τ' : z_M) : Prop := XM τ τ' ∧ ∀ i, i ≠ 80 + 5 * k + 3 → i ≠ 80 + 5 * k + 4 → τ' 19 i = τ 19 i
theorem PF_trans {k : Nat} {τ τ' τ'' : z_M} (h : PF k τ τ') (g : PF k τ' τ'') : PF k τ τ'' := ⟨XM_trans h.1 g.1, fun i a c => (g.2 i a c).trans (h.2 i a c)⟩
theorem PF_MF {k : Nat} {τ τ' : z_M} (h : MF τ τ') : PF k τ τ' := ⟨XM_MF h, fun i _ _ => by rw [h.1 19 (by omega)]⟩
theorem PF_set {k i : Nat} {v : Int32} {τ : z_M} (h : i = 80 + 5 * k + 3 ∨ i = 80 + 5 * k + 4) : PF k τ (z_set τ 19 i v) := ⟨XM_19 (by omega), fun j a c => s_kn (by omega)⟩
def PB (d a c : Nat) : Prop := (d = 0 ∧ a < 8 ∧ c ≤ 9) ∨ d = 1 ∨ (d = 2 ∧ 1 ≤ a ∧ a ≤ 99) ∨ (d = 3 ∧ a < 8 ∧ c ≤ 100)
/-- the class behind the house of a line -/
def PC (w v2 h : Int32) (σ : z_M) : Option (Unit × z_M) := if v2 = 22 then f3_readPlan_J106 w v2 h σ else if v2 = 26 then f3_readPlan_J106 w v2 h σ else if v2 = 2 then z_bnd (f3_takes 24 σ) fun _ σ6 => z_bnd (f3_number 1 99 σ6) fun r7 σ8 => f3_readPlan_J180 w v2 h r7 0 σ8 else f3_readPlan_J180 w v2 h 0 0 σ
/-- the reference behind it -/
def PT (k : Nat) (τ : z_M) : Option (Int32 × z_M) := z_bnd (f12_readDeed (nI (80 + 5 * k)) τ) fun r15 σ16 => if r15 = (-1) then some ((-1), σ16) else z_bnd (f12_readMark 59 σ16) fun r17 σ18 => some (r17, σ18)
def PE (n N : Nat) (b P : Nat → Nat) (K V L : Nat → Int32) (k d : Nat) (w h : Int32) (σ τ : z_M) (cl : Option (Unit × z_M)) : Prop := (∃ σ' τ' x' a c, PB d a c ∧ cl = some ((), σ') ∧ PT k τ = some (0, τ') ∧ Bo n N b P K V L x' σ' τ' ∧ LA k w (nI (dk d)) h (nI a) (nI c) σ σ' ∧ PF k τ τ' ∧ τ' 19 (80 + 5 * k + 3) = nI a ∧ τ' 19 (80 + 5 * k + 4) = nI c) ∨ ∃ σ' τ', cl = some ((), σ') ∧ PT k τ = some (-1, τ') ∧ FA N K V L σ τ σ' τ'
theorem le_of_n {v h : Nat} (hv : v < 10000) (hh : h < 10000) (c : ¬ nI h < nI v) : v ≤ h := by
  rcases Nat.lt_or_ge h v with q | q
  · exact absurd (nI_lt (a := h) (b := v) q (by omega)) c
  · exact q
/-- pot and tell -/
theorem r_dd {x k d j2 hi2 : Nat} {w h : Int32} {σ τ : z_M} (hB : TkB n b N P K V L) (ho : Bo n N b P K V L x σ τ) (hd : (d = 0 ∧ j2 = 1 ∧ hi2 = 9) ∨ (d = 3 ∧ j2 = 27 ∧ hi2 = 100)) (hk : k < 16) (h102 : σ 102 2 = nI k) (hD : τ 19 (80 + 5 * k + 1) = nI d) : PE n N b P K V L k d w h σ τ (f3_readPlan_J106 w (nI (dk d)) h σ) := by
  have e3 : nI (80 + 5 * k) + 3 = nI (80 + 5 * k + 3) := by show _ + nI 3 = _; rw [nI_add]
  have e4 : nI (80 + 5 * k) + 4 = nI (80 + 5 * k + 4) := by show _ + nI 4 = _; rw [nI_add]
  have d1 : ¬ nI d = 1 := by rcases hd with ⟨rfl, -⟩ | ⟨rfl, -⟩ <;> decide
  have d2 : ¬ nI d = 2 := by rcases hd with ⟨rfl, -⟩ | ⟨rfl, -⟩ <;> decide
  have hj : j2 < 28 := by omega
  have s1 : ∀ a s, (if nI (dk d) = 22 then f3_readPlan_J134 w (nI (dk d)) h a 1 s else f3_readPlan_J134 w (nI (dk d)) h a 27 s) = f3_readPlan_J134 w (nI (dk d)) h a (nI j2) s := fun a s => by
    rcases hd with ⟨rfl, rfl, rfl⟩ | ⟨rfl, rfl, rfl⟩
    · exact if_pos rfl
    · exact if_neg (by decide)
  have s2 : ∀ a s, (if nI (dk d) = 22 then f3_readPlan_J152 w (nI (dk d)) h a 0 9 s else f3_readPlan_J152 w (nI (dk d)) h a 0 100 s) = f3_readPlan_J152 w (nI (dk d)) h a 0 (nI hi2) s := fun a s => by
    rcases hd with ⟨rfl, rfl, rfl⟩ | ⟨rfl, rfl, rfl⟩
    · exact if_pos rfl
    · exact if_neg (by decide)
  have s3 : ∀ s, (if nI d = 0 then z_bnd (f12_readTold 8 0 9 s) fun r6 σ7 => f12_readDeed_J108 (nI (80 + 5 * k)) (nI (80 + 5 * k + 4)) r6 σ7 else z_bnd (f12_readTold 27 0 100 s) fun r4 σ5 => f12_readDeed_J108 (nI (80 + 5 * k)) (nI (80 + 5 * k + 4)) r4 σ5) = z_bnd (f12_readTold (nI (wp j2)) 0 (nI hi2) s) fun r6 σ7 => f12_readDeed_J108 (nI (80 + 5 * k)) (nI (80 + 5 * k + 4)) r6 σ7 := fun s => by
    rcases hd with ⟨rfl, rfl, rfl⟩ | ⟨rfl, rfl, rfl⟩
    · exact if_pos rfl
    · exact if_neg (by decide)
  have hJ49 : ∀ r s, f12_readDeed_J49 (nI (80 + 5 * k)) (nI d) (nI (80 + 5 * k + 3)) r s = if r = -1 then some (-1, z_set s 19 (80 + 5 * k + 3) r) else z_bnd (f12_readTold (nI (wp j2)) 0 (nI hi2) (z_set s 19 (80 + 5 * k + 3) r)) fun r6 σ7 => f12_readDeed_J108 (nI (80 + 5 * k)) (nI (80 + 5 * k + 4)) r6 σ7 := fun r s => by
    unfold f12_readDeed_J49 f12_readDeed_J67
    rw [e3, e4, k_cin _ (by omega) (by omega), q_ix (by omega), q_let, k_cin _ (by omega) (by omega), k_cin _ (by omega) (by omega), s_eq, if_neg d2, s3]
    by_cases q : r = -1
    · rw [if_pos q, if_pos q, q]
    · rw [if_neg q, if_neg q]
  have hJ108 : ∀ r s, f12_readDeed_J108 (nI (80 + 5 * k)) (nI (80 + 5 * k + 4)) r s = some (r, z_set s 19 (80 + 5 * k + 4) r) := fun r s => by
    unfold f12_readDeed_J108
    rw [e4, k_cin _ (by omega) (by omega), q_ix (by omega), q_let, k_cin _ (by omega) (by omega), s_eq]
  unfold PE PT f12_readDeed f3_readPlan_J106
  rw [nI_1, k_cin _ (by omega) (by omega), q_ix (by omega), hD, if_neg d1, if_neg d2, e3]
  rcases g_told (j := 23) 0 7 hB ho (by omega) with ⟨a, σ1, σ2, τ2, c1, c2, c3, c4, c5, c6, c7, c8, c9⟩ | ⟨σ1, σ2, τ2, c4, c5, c6, c7⟩
  · have c4 : f3_takes 23 σ = some ((), σ1) := c4
    have c6 : f12_readTold 23 0 7 τ = some (nI a, τ2) := c6
    have ha := le_of_n (h := 7) c1 (by omega) c3
    have ho2 : Bo n N b P K V L (x + 2) σ2 (z_set τ2 19 (80 + 5 * k + 3) (nI a)) := Bo_set c9 (by omega)
    have hP2 : PF k τ (z_set τ2 19 (80 + 5 * k + 3) (nI a)) := PF_trans (PF_MF c8) (PF_set (.inl rfl))
    rw [c4, q_bnd, c5, q_bnd, s1, c6, q_bnd, hJ49, if_neg (q_neg (by omega))]
    unfold f3_readPlan_J134
    rcases g_told (j := j2) 0 (nI hi2) hB ho2 hj with ⟨c, σ3, σ4, τ4, f1, f2, f3, f4, f5, f6, f7, f8, f9⟩ | ⟨σ3, σ4, τ4, f4, f5, f6, f7⟩
    · have hc := le_of_n (h := hi2) f1 (by omega) f3
      have ho4 : Bo n N b P K V L (x + 2 + 2) σ4 (z_set τ4 19 (80 + 5 * k + 4) (nI c)) := Bo_set f9 (by omega)
      have hP4 : PF k τ (z_set τ4 19 (80 + 5 * k + 4) (nI c)) := PF_trans hP2 (PF_trans (PF_MF f8) (PF_set (.inr rfl)))
      have hTF : QF σ σ4 := QF_trans c7 f7
      rw [f4, q_bnd, s2]
      unfold f3_readPlan_J152 f3_readPlan_J180
      rw [f5, q_bnd, f6, q_bnd, hJ108, q_bnd, if_neg (q_neg (by omega))]
      rcases g_finish w (nI (dk d)) h (nI a) (nI c) hB ho4 hk (by rw [hTF.1 102 (by omega)]; exact h102) with ⟨σ5, τ5, g1, g2, g3, g4, g5⟩ | ⟨σ5, τ5, g1, g2, g3⟩
      · left
        rw [g1, q_bnd, g2, q_bnd]
        refine ⟨σ5, τ5, _, a, c, ?_, rfl, rfl, g4, LA_QF hTF g5, PF_trans hP4 (PF_MF g3), ?_, ?_⟩
        · unfold PB; omega
        · rw [g3.1 19 (by omega), s_kn (by omega), f8.1 19 (by omega), s_eq]
        · rw [g3.1 19 (by omega), s_eq]
      · right
        rw [g1, q_bnd, g2, q_bnd]
        exact ⟨σ5, τ5, rfl, rfl, FA_QF hTF hP4.1 g3⟩
    · right
      rw [f4, q_bnd, s2]
      unfold f3_readPlan_J152
      rw [f5, q_bnd, e3_p180F (FA_ne f7), f6, q_bnd, hJ108, q_bnd, if_pos rfl]
      exact ⟨_, _, rfl, rfl, FA_QF c7 hP2.1 (FA_after f7 (XM_19 (by omega)) (by rw [s_ne (by omega)]) (by rw [s_ne (by omega)]))⟩
  · right
    have c4 : f3_takes 23 σ = some ((), σ1) := c4
    have c6 : f12_readTold 23 0 7 τ = some (-1, τ2) := c6
    rw [c4, q_bnd, c5, q_bnd, s1, e3_p134F (FA_ne c7), c6, q_bnd, hJ49, if_pos rfl, q_bnd, if_pos rfl]
    exact ⟨_, _, rfl, rfl, FA_after c7 (XM_19 (by omega)) (by rw [s_ne (by omega)]) (by rw [s_ne (by omega)])⟩
/-- water -/
theorem r_dw {x k : Nat} {w h : Int32} {σ τ : z_M} (hB : TkB n b N P K V L) (ho : Bo n N b P K V L x σ τ) (hk : k < 16) (h102 : σ 102 2 = nI k) (hD : τ 19 (80 + 5 * k + 1) = nI 2) (h4 : τ 19 (80 + 5 * k + 4) = nI 0) : PE n N b P K V L k 2 w h σ τ (z_bnd (f3_takes 24 σ) fun _ σ6 => z_bnd (f3_number 1 99 σ6) fun r7 σ8 => f3_readPlan_J180 w (nI (dk 2)) h r7 0 σ8) := by
  have e3 : nI (80 + 5 * k) + 3 = nI (80 + 5 * k + 3) := by show _ + nI 3 = _; rw [nI_add]
  have hJ49 : ∀ r s, f12_readDeed_J49 (nI (80 + 5 * k)) (nI 2) (nI (80 + 5 * k + 3)) r s = some (r, z_set s 19 (80 + 5 * k + 3) r) := fun r s => by
    unfold f12_readDeed_J49 f12_readDeed_J67
    rw [e3, k_cin _ (by omega) (by omega), q_ix (by omega), q_let, k_cin _ (by omega) (by omega), k_cin _ (by omega) (by omega), s_eq, if_pos (show nI 2 = 2 from rfl), ite_self]
  unfold PE PT f12_readDeed
  rw [nI_1, k_cin _ (by omega) (by omega), q_ix (by omega), hD, if_neg (show ¬ nI 2 = 1 by decide), if_pos (show nI 2 = 2 from rfl), e3]
  rcases g_told (j := 24) 1 99 hB ho (by omega) with ⟨a, σ1, σ2, τ2, c1, c2, c3, c4, c5, c6, c7, c8, c9⟩ | ⟨σ1, σ2, τ2, c4, c5, c6, c7⟩
  · have c4 : f3_takes 24 σ = some ((), σ1) := c4
    have c6 : f12_readTold 24 1 99 τ = some (nI a, τ2) := c6
    have ha := le_of_n (h := 99) c1 (by omega) c3
    have ha1 : 1 ≤ a := by
      rcases Nat.eq_zero_or_pos a with q | q
      · rw [q] at c2; exact absurd (show nI 0 < 1 by decide) c2
      · exact q
    have ho2 : Bo n N b P K V L (x + 2) σ2 (z_set τ2 19 (80 + 5 * k + 3) (nI a)) := Bo_set c9 (by omega)
    have hP2 : PF k τ (z_set τ2 19 (80 + 5 * k + 3) (nI a)) := PF_trans (PF_MF c8) (PF_set (.inl rfl))
    unfold f3_readPlan_J180
    rw [c4, q_bnd, c5, q_bnd, c6, q_bnd, hJ49, q_bnd, if_neg (q_neg (by omega))]
    rcases g_finish w (nI (dk 2)) h (nI a) 0 hB ho2 hk (by rw [c7.1 102 (by omega)]; exact h102) with ⟨σ5, τ5, g1, g2, g3, g4, g5⟩ | ⟨σ5, τ5, g1, g2, g3⟩
    · left
      rw [g1, q_bnd, g2, q_bnd]
      refine ⟨σ5, τ5, _, a, 0, ?_, rfl, rfl, g4, LA_QF c7 g5, PF_trans hP2 (PF_MF g3), ?_, ?_⟩
      · unfold PB; omega
      · rw [g3.1 19 (by omega), s_eq]
      · rw [g3.1 19 (by omega), s_kn (by omega), c8.1 19 (by omega)]; exact h4
    · right
      rw [g1, q_bnd, g2, q_bnd]
      exact ⟨σ5, τ5, rfl, rfl, FA_QF c7 hP2.1 g3⟩
  · right
    have c4 : f3_takes 24 σ = some ((), σ1) := c4
    have c6 : f12_readTold 24 1 99 τ = some (-1, τ2) := c6
    rw [c4, q_bnd, c5, q_bnd, e3_p180F (FA_ne c7), c6, q_bnd, hJ49, q_bnd, if_pos rfl]
    exact ⟨_, _, rfl, rfl, FA_after c7 (XM_19 (by omega)) (by rw [s_ne (by omega)]) (by rw [s_ne (by omega)])⟩
/-- weed -/
theorem r_dx {x k : Nat} {w h : Int32} {σ τ : z_M} (hB : TkB n b N P K V L) (ho : Bo n N b P K V L x σ τ) (hk : k < 16) (h102 : σ 102 2 = nI k) (hD : τ 19 (80 + 5 * k + 1) = nI 1) (h3 : τ 19 (80 + 5 * k + 3) = nI 0) (h4 : τ 19 (80 + 5 * k + 4) = nI 0) : PE n N b P K V L k 1 w h σ τ (f3_readPlan_J180 w (nI (dk 1)) h 0 0 σ) := by
  unfold PE PT f12_readDeed f3_readPlan_J180
  rw [nI_1, k_cin _ (by omega) (by omega), q_ix (by omega), hD, if_pos (show nI 1 = 1 from rfl), q_bnd, if_neg (show ¬ (0 : Int32) = -1 by decide)]
  rcases g_finish w (nI (dk 1)) h 0 0 hB ho hk h102 with ⟨σ5, τ5, g1, g2, g3, g4, g5⟩ | ⟨σ5, τ5, g1, g2, g3⟩
  · left
    rw [g1, q_bnd, g2, q_bnd]
    exact ⟨σ5, τ5, _, 0, 0, .inr (.inl rfl), rfl, rfl, g4, g5, PF_MF g3, by rw [g3.1 19 (by omega)]; exact h3, by rw [g3.1 19 (by omega)]; exact h4⟩
  · right
    rw [g1, q_bnd, g2, q_bnd]
    exact ⟨σ5, τ5, rfl, rfl, g3⟩
/-- any deed -/
theorem r_deed {x k d : Nat} {w h : Int32} {σ τ : z_M} (hB : TkB n b N P K V L) (ho : Bo n N b P K V L x σ τ) (hd : d < 4) (hk : k < 16) (h102 : σ 102 2 = nI k) (hD : τ 19 (80 + 5 * k + 1) = nI d) (h3 : τ 19 (80 + 5 * k + 3) = nI 0) (h4 : τ 19 (80 + 5 * k + 4) = nI 0) : PE n N b P K V L k d w h σ τ (PC w (nI (dk d)) h σ) := by
  unfold PC
  have hd : d = 0 ∨ d = 1 ∨ d = 2 ∨ d = 3 := by omega
  rcases hd with rfl | rfl | rfl | rfl
  · rw [if_pos (show nI (dk 0) = 22 from rfl)]
    exact r_dd hB ho (.inl ⟨rfl, rfl, rfl⟩) hk h102 hD
  · rw [if_neg (show ¬ nI (dk 1) = 22 by decide), if_neg (show ¬ nI (dk 1) = 26 by decide), if_neg (show ¬ nI (dk 1) = 2 by decide)]
    exact r_dx hB ho hk h102 hD h3 h4
  · rw [if_neg (show ¬ nI (dk 2) = 22 by decide), if_neg (show ¬ nI (dk 2) = 26 by decide), if_pos (show nI (dk 2) = 2 from rfl)]
    exact r_dw hB ho hk h102 hD h4
  · rw [if_neg (show ¬ nI (dk 3) = 22 by decide), if_pos (show nI (dk 3) = 26 from rfl)]
    exact r_dd hB ho (.inr ⟨rfl, rfl, rfl⟩) hk h102 hD
/-- the class from the deed's word on -/
theorem e3_five {d : Nat} {w : Int32} {σ : z_M} (hd : d < 4) : (if nI (dk d) = 22 then f3_readPlan_J60 w (nI (dk d)) 1 σ else if nI (dk d) = 2 then f3_readPlan_J60 w (nI (dk d)) 1 σ else if nI (dk d) = 25 then f3_readPlan_J60 w (nI (dk d)) 1 σ else if nI (dk d) = 26 then f3_readPlan_J60 w (nI (dk d)) 1 σ else f3_readPlan_J60 w (nI (dk d)) 0 σ) = f3_readPlan_J72 w (nI (dk d)) (nI (dk d)) σ := by
  unfold f3_readPlan_J60
  rw [i_10]
  have hd : d = 0 ∨ d = 1 ∨ d = 2 ∨ d = 3 := by omega
  rcases hd with rfl | rfl | rfl | rfl
  · rw [if_pos (show nI (dk 0) = 22 from rfl)]
  · rw [if_neg (show ¬ nI (dk 1) = 22 by decide), if_neg (show ¬ nI (dk 1) = 2 by decide), if_pos (show nI (dk 1) = 25 from rfl)]
  · rw [if_neg (show ¬ nI (dk 2) = 22 by decide), if_pos (show nI (dk 2) = 2 from rfl)]
  · rw [if_neg (show ¬ nI (dk 3) = 22 by decide), if_neg (show ¬ nI (dk 3) = 2 by decide), if_neg (show ¬ nI (dk 3) = 25 by decide), if_pos (show nI (dk 3) = 26 from rfl)]
theorem e3_none {w k : Int32} {σ : z_M} (a : ¬ k = 22) (c : ¬ k = 2) (d : ¬ k = 25) (e : ¬ k = 26) : (if k = 22 then f3_readPlan_J60 w k 1 σ else if k = 2 then f3_readPlan_J60 w k 1 σ else if k = 25 then f3_readPlan_J60 w k 1 σ else if k = 26 then f3_readPlan_J60 w k 1 σ else f3_readPlan_J60 w k 0 σ) = f3_readPlan_J72 w k 22 σ := by
  rw [if_neg a, if_neg c, if_neg d, if_neg e]
  unfold f3_readPlan_J60
  rw [i_00]
theorem e3_planF {y : Nat} {σ : z_M} (hc : AC N K V L y σ) (hN : N ≤ 400) (h2 : ¬ σ 101 2 = 0) : (z_bnd (f3_number 0 999 σ) fun r3 σ4 => z_bnd (f3_kind σ4) fun r5 σ6 => if r5 = 22 then f3_readPlan_J60 r3 r5 1 σ6 else if r5 = 2 then f3_readPlan_J60 r3 r5 1 σ6 else if r5 = 25 then f3_readPlan_J60 r3 r5 1 σ6 else if r5 = 26 then f3_readPlan_J60 r3 r5 1 σ6 else f3_readPlan_J60 r3 r5 0 σ6) = some ((), σ) := by
  rw [e3_numberF h2, q_bnd, e3_kind hc hN, q_bnd, e3_p60F h2, e3_p60F h2, ite_self, ite_self, ite_self, ite_self]
end
