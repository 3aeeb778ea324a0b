/-! the law's conditions: a comparison, a whole condition -/
/-- the class's way through a C -/
def CC (k14 : Int32 → Int32 → z_M → Option (Unit × z_M)) (v2 : Int32) (σ : z_M) : Option (Unit × z_M) := z_bnd (f3_readSum σ) fun _ σ6 => z_bnd (f3_kind σ6) fun r7 σ8 => if r7 < 39 then f3_readCondition_J83 k14 v2 r7 σ8 else if 41 < r7 then f3_readCondition_J83 k14 v2 r7 σ8 else f3_readCondition_J85 k14 v2 r7 r7 σ8
section
variable {n N : Nat} {b P : Nat → Nat} {K V L : Nat → Int32}
theorem AM_k {x : Nat} {τ : z_M} (hm : AM n b P K V L x τ) : ∃ j, j ≤ 44 ∧ K x = nI j := by
  obtain ⟨-, -, -, -, t⟩ := hm
  rcases t with ⟨a, c⟩ | ⟨a, c⟩ | ⟨a, c, d⟩ | ⟨i, i1, a, c, d⟩ | ⟨i, i1, a, c, d⟩
  · exact ⟨43, by omega, a⟩
  · exact ⟨44, by omega, a⟩
  · exact ⟨42, by omega, a⟩
  · exact ⟨i, by omega, a⟩
  · exact ⟨32 + i, by omega, a⟩
theorem e3_85F {v3 : Int32} {σ τ σ' τ' : z_M} (hd : DK σ) (h : FA N K V L σ τ σ' τ') : ∃ σ'', FA N K V L σ τ σ'' τ' ∧ ∀ k14 v2 s1, f3_readCondition_J85 k14 v2 v3 s1 σ' = k14 0 (v2 + 1) σ'' := by
  obtain ⟨σ'', e1, e2⟩ := e9_emitF (v := v3) hd h
  refine ⟨σ'', e2, fun k14 v2 s1 => ?_⟩
  unfold f3_readCondition_J85
  rw [e3_takesF (FA_ne h), q_bnd, e3_sumF (FA_ne h), q_bnd, e1, q_bnd, e3_joinsF (FA_ne e2), q_bnd]
theorem v_cmp : ∀ e, e < 3 → ¬ nI (39 + e) < 39 ∧ ¬ 41 < nI (39 + e) := by decide +kernel
/-- a C -/
theorem r_compared {w f c x : Nat} {s0 : List Bool} {σ τ : z_M} (hB : TkB n b N P K V L) (h : BL n N b P K V L f c x s0 σ τ) (hs0 : s0.length ≤ 20) (hcw : c + w ≤ x) : (∃ σ' τ' x' c', x < x' ∧ c ≤ c' ∧ c' + w ≤ x' ∧ (∀ k14 v2, CC k14 v2 σ = z_bnd (f3_joins σ') fun r7 σ8 => k14 r7 (v2 + 1) σ8) ∧ f12_readCompared τ = some (0, τ') ∧ BL n N b P K V L f c' x' (true :: s0) σ' τ' ∧ SF c σ τ σ' τ') ∨ ∃ σ' τ', (∀ k14 v2, CC k14 v2 σ = k14 0 (v2 + 1) σ') ∧ f12_readCompared τ = some (-1, τ') ∧ FA N K V L σ τ σ' τ' := by
  obtain ⟨hx, hN⟩ := Bo_N hB h.1
  have hd : DK σ := BL_DK h (by omega)
  unfold f12_readCompared
  rcases r_sum (w := w) hB h (by omega) hcw with ⟨σ1, τ1, x1, c1, a1, a2, a3, a4, a5, a6, a7⟩ | ⟨σ1, τ1, a1, a2, a3⟩
  · obtain ⟨hx1, -⟩ := Bo_N hB a6.1
    have hd1 : DK σ1 := BL_DK a6 (by omega)
    have w60 : f12_isSign 60 τ1 = some (if K x1 = 39 then 1 else 0, τ1) := e12_isSign (j := 7) a6.1.2.1 (by omega)
    have w61 : f12_isSign 61 τ1 = some (if K x1 = 40 then 1 else 0, τ1) := e12_isSign (j := 8) a6.1.2.1 (by omega)
    have w62 : f12_isSign 62 τ1 = some (if K x1 = 41 then 1 else 0, τ1) := e12_isSign (j := 9) a6.1.2.1 (by omega)
    have hC : ∀ k14 v2, CC k14 v2 σ = if K x1 < 39 then f3_readCondition_J83 k14 v2 (K x1) σ1 else if 41 < K x1 then f3_readCondition_J83 k14 v2 (K x1) σ1 else f3_readCondition_J85 k14 v2 (K x1) (K x1) σ1 := fun k14 v2 => by
      unfold CC
      rw [a4, q_bnd, Bo_kind hB a6.1, q_bnd]
    rw [a5, q_bnd, if_neg (show ¬ (0 : Int32) = -1 by decide)]
    by_cases qs : ∃ e, e < 3 ∧ K x1 = nI (39 + e)
    · obtain ⟨e, he, qx⟩ := qs
      have hlt := x_lt hB hx1 (k43 (by omega) qx)
      obtain ⟨τ2, y1, y2, y3, -⟩ := BL_next hB a6 (k43 (by omega) qx)
      have e18 := (AM_sg (j := 7 + e) a6.1.2.1 (by omega) (by rw [qx, show 32 + (7 + e) = 39 + e by omega])).2
      have href : (z_bnd (f12_isSign 60 τ1) fun r3 σ4 => if r3 = 0 then z_bnd (f12_isSign 61 σ4) fun r5 σ6 => if r5 = 0 then z_bnd (f12_isSign 62 σ6) fun r7 σ8 => if r7 = 0 then z_bnd (f12_errs 1 σ8) fun r9 σ10 => some (r9, σ10) else f12_readCompared_J43 σ8 else f12_readCompared_J43 σ6 else f12_readCompared_J43 σ4) = z_bnd (f12_readSum τ2) fun r3 σ4 => if r3 = -1 then some (-1, σ4) else z_bnd (f12_emits (nI (6 + e)) 0 σ4) fun _ σ6 => some (0, σ6) := by
        unfold f12_readCompared_J43 f12_readCompared_J73
        rw [w60, q_bnd, w61, q_bnd, w62, q_bnd, e18, y1, q_bnd, q_bnd, q_bnd]
        have he : e = 0 ∨ e = 1 ∨ e = 2 := by omega
        rcases he with rfl | rfl | rfl
        · rw [if_pos (show K x1 = 39 from qx), i_10]; rfl
        · rw [if_neg (show ¬ K x1 = 39 by rw [qx]; decide), i_00, if_pos (show K x1 = 40 from qx), i_10]; rfl
        · rw [if_neg (show ¬ K x1 = 39 by rw [qx]; decide), i_00, if_neg (show ¬ K x1 = 40 by rw [qx]; decide), i_00, if_pos (show K x1 = 41 from qx), i_10]; rfl
      rw [href]
      have hcls : ∀ k14 v2, CC k14 v2 σ = z_bnd (f3_readSum (z_set σ1 101 4 (nI (x1 + 1)))) fun _ σ4 => z_bnd (f9_emit 102 (nI (39 + e)) σ4) fun _ σ6 => z_bnd (f3_joins σ6) fun r7 σ8 => k14 r7 (v2 + 1) σ8 := fun k14 v2 => by
        rw [hC, qx, if_neg (v_cmp e he).1, if_neg (v_cmp e he).2]
        unfold f3_readCondition_J85
        rw [e3_takes a6.1.1 hN a6.1.2.2, if_pos qx, q_bnd]
      have hS2 : SF c σ τ (z_set σ1 101 4 (nI (x1 + 1))) τ2 := SF_trans (by omega) a7 y3
      rcases r_sum (w := w + 1) hB y2 (by simp; omega) (by omega) with ⟨σ3, τ3, x3, c3, d1, d2, d3, d4, d5, d6, d7⟩ | ⟨σ3, τ3, d1, d2, d3⟩
      · left
        obtain ⟨hx3, -⟩ := Bo_N hB d6.1
        have hr : C_rel (nI (39 + e)) (nI (6 + e)) 0 := by
          have he : e = 0 ∨ e = 1 ∨ e = 2 := by omega
          rcases he with rfl | rfl | rfl
          · exact .inr (.inr (.inr (.inr (.inr (.inr (.inl ⟨rfl, rfl⟩))))))
          · exact .inr (.inr (.inr (.inr (.inr (.inr (.inr (.inl ⟨rfl, rfl⟩)))))))
          · exact .inr (.inr (.inr (.inr (.inr (.inr (.inr (.inr (.inl ⟨rfl, rfl⟩))))))))
        have hdp : C_dep (nI (39 + e)) (false :: false :: s0) = some (true :: s0) := by
          have he : e = 0 ∨ e = 1 ∨ e = 2 := by omega
          rcases he with rfl | rfl | rfl
          · exact dep_39
          · exact dep_40
          · exact dep_41
        have hE := BL_emit d6 hr hdp (fun z => by (have z : nI (39 + e) = nI 36 := z; rw [nI_eq (by omega) (by omega)] at z; omega))
        refine ⟨_, _, x3, c3 + 1, by omega, by omega, by omega, fun k14 v2 => ?_, ?_, hE, SF_trans (c' := c3) (by omega) (SF_trans (c' := c1) (by omega) hS2 d7) SF_emit⟩
        · rw [hcls, d4, q_bnd, e9_emit (by omega) d6.2.1.1, q_bnd]
        · rw [d5, q_bnd, if_neg (show ¬ (0 : Int32) = -1 by decide), e12_emits (by omega) d6.2.1.2.1, q_bnd]
      · right
        obtain ⟨σ4, g1, g2⟩ := e9_emitF (v := nI (39 + e)) (BL_DK y2 (by omega)) d3
        refine ⟨σ4, τ3, fun k14 v2 => ?_, by rw [d2, q_bnd, if_pos rfl], FA_SF hS2 (BL_DK y2 (by omega)) g2⟩
        rw [hcls, d1, q_bnd, g1, q_bnd, e3_joinsF (FA_ne g2), q_bnd]
    · right
      obtain ⟨j, hj, ej⟩ := AM_k a6.1.2.1
      have n0 : ∀ e, e < 3 → ¬ j = 39 + e := fun e he z => qs ⟨e, he, by rw [ej, z]⟩
      have h39 := n0 0 (by omega)
      have h40 := n0 1 (by omega)
      have h41 := n0 2 (by omega)
      have ne : ∀ i, i < 100 → j ≠ i → ¬ K x1 = nI i := fun i hi e z => by
        rw [ej, nI_eq (by omega) (by omega)] at z; exact e z
      have hsel : ∀ k14 v2, CC k14 v2 σ = f3_readCondition_J85 k14 v2 (K x1) 40 σ1 := fun k14 v2 => by
        rw [hC]
        unfold f3_readCondition_J83
        rcases Nat.lt_or_ge j 39 with q | q
        · rw [if_pos (show K x1 < 39 by rw [ej]; exact nI_lt (a := j) (b := 39) q (by omega))]
        · rw [if_pos (show 41 < K x1 by rw [ej]; exact nI_lt (a := 41) (b := j) (by omega) (by omega)), ite_self]
      have hF := FC_f (σ := σ1) (f := 1) (p := L x1) (by decide)
      have hFA : FA N K V L σ1 τ1 (FC σ1 1 (L x1)) (FM τ1 1 (L x1)) := FA_here a6.1.1 (by decide)
      obtain ⟨σ4, g1, g2⟩ := e9_emitF (v := K x1) hd1 hFA
      refine ⟨σ4, FM τ1 1 (L x1), fun k14 v2 => ?_, ?_, FA_SF a7 hd1 g2⟩
      · rw [hsel]
        unfold f3_readCondition_J85
        rw [e3_takes a6.1.1 hN a6.1.2.2, if_neg (show ¬ K x1 = 40 from ne 40 (by omega) (by omega)), q_bnd, e3_sumF hF, q_bnd, g1, q_bnd, e3_joinsF (FA_ne g2), q_bnd]
      · rw [w60, q_bnd, if_neg (show ¬ K x1 = 39 from ne 39 (by omega) (by omega)), i_00, w61, q_bnd, if_neg (show ¬ K x1 = 40 from ne 40 (by omega) (by omega)), i_00, w62, q_bnd, if_neg (show ¬ K x1 = 41 from ne 41 (by omega) (by omega)), i_00, Bo_errs a6.1, q_bnd]
  · right
    obtain ⟨y, hy⟩ := a3.2.1
    obtain ⟨σ2, f1, f2⟩ := e3_85F (v3 := K y) hd a3
    refine ⟨σ2, τ1, fun k14 v2 => ?_, by rw [a2, q_bnd, if_pos rfl], f1⟩
    unfold CC f3_readCondition_J83
    rw [a1, q_bnd, e3_kind hy hN, q_bnd, f2, f2, ite_self, ite_self]
theorem e3_c14F {m : Nat} {v1 v2 : Int32} {σ : z_M} (h2 : ¬ σ 101 2 = 0) : f3_readCondition_L14 (m + 1) v1 v2 σ = some ((), σ) := by
  unfold f3_readCondition_L14
  rw [if_neg h2, ite_self, ite_self]
theorem e3_c14_0 {m : Nat} {v2 : Int32} {σ : z_M} : f3_readCondition_L14 (m + 1) 0 v2 σ = some ((), σ) := by
  unfold f3_readCondition_L14
  rw [if_pos rfl, ite_self]
/-- where an operand must come: the rest of the condition -/
theorem r_cond {f : Nat} (hB : TkB n b N P K V L) : ∀ (r x m q v c : Nat) (W : List Nat) (σ τ : z_M), N - x = r → r + 1 < m → r < q → v ≤ x → OPs n N b P K V L f c x W σ τ → (∃ σ' τ' x' c', x ≤ x' ∧ c ≤ c' ∧ c' ≤ x' ∧ f3_readCondition_L14 m 1 (nI v) σ = some ((), σ') ∧ f12_readAny_L9 q (nI (cP W)) 1 τ = some (0, τ') ∧ BL n N b P K V L f c' x' [true] σ' τ' ∧ τ' 0 29 = 0 ∧ VF c σ τ σ' τ') ∨ ∃ σ' τ', f3_readCondition_L14 m 1 (nI v) σ = some ((), σ') ∧ f12_readAny_L9 q (nI (cP W)) 1 τ = some (-1, τ') ∧ FA N K V L σ τ σ' τ' := by
  intro r
  induction r using Nat.strongRecOn with
  | ind r ih =>
  intro x m q v c W σ τ hr hm hq hv hO
  obtain ⟨h, hS, hOp, hcx⟩ := hO
  obtain ⟨hx, hN⟩ := Bo_N hB h.1
  obtain ⟨m, rfl⟩ : ∃ z, m = z + 2 := ⟨m - 2, by omega⟩
  obtain ⟨q, rfl⟩ : ∃ z, q = z + 1 := ⟨q - 1, by omega⟩
  have hl := Sw_len hS hOp.1
  have hd : DK σ := BL_DK h (by omega)
  have hfu : z_fu = 1000 := rfl
  have w6 : f12_isWord 6 τ = some (if K x = 14 then 1 else 0, τ) := e12_isWord (j := 14) h.1.2.1 (by omega)
  have w40 : f12_isSign 40 τ = some (if K x = 37 then 1 else 0, τ) := e12_isSign (j := 5) h.1.2.1 (by omega)
  by_cases qo : ∃ w, (w = 14 ∨ w = 37) ∧ K x = nI w
  · -- not, or (
    obtain ⟨w, hw, qx⟩ := qo
    have hclO : f3_readCondition_L14 (m + 2) 1 (nI v) σ = z_bnd (f3_opens σ) fun _ σ2 => f3_readCondition_L14 (m + 1) 1 (nI (v + 1)) σ2 := by
      conv => lhs; unfold f3_readCondition_L14
      unfold f3_readCondition_J50
      rw [if_neg (show ¬ 400 < nI v from nI_nlt (a := 400) (b := v) (by omega) (by omega)), i_10, if_pos h.1.2.2, Bo_kind hB h.1, q_bnd, Bo_kind hB h.1, q_bnd, nI_1]
      rcases hw with rfl | rfl
      · rw [if_pos (show K x = 14 from qx)]
      · rw [if_pos (show K x = 37 from qx), ite_self]
    have hrefO : f12_readAny_L9 (q + 1) (nI (cP W)) 1 τ = if nI (cO W) = 8 then f12_readAny_J42 τ else z_bnd (f12_waits (nI (rop w)) (z_set τ 0 29 (nI (cO W + 1)))) fun _ σ2 => z_bnd (f12_reads σ2) fun _ σ4 => f12_readAny_L9 q (nI (cP (w :: W))) 1 σ4 := by
      conv => lhs; unfold f12_readAny_L9
      unfold f12_readAny_J33 f12_readAny_J66 f12_readAny_J78
      rw [i_10, w6, q_bnd, w40, q_bnd, hOp.2.2, nI_1, nI_1, q_let]
      rcases hw with rfl | rfl
      · rw [if_pos (show K x = 14 from qx), i_10, i_10, i_10, show cP (14 :: W) = cP W from by show 0 + cP W = _; omega]; rfl
      · rw [if_neg (show ¬ K x = 14 by rw [qx]; decide), i_00, if_pos (show K x = 37 from qx), i_10, i_00, i_00, show cP (37 :: W) = cP W + 1 from by show 1 + cP W = _; omega]; rfl
    rw [hclO, hrefO]
    unfold f3_opens
    rw [hOp.2.1]
    by_cases q8 : cO W = 8
    · right
      unfold f12_readAny_J42
      rw [q8, if_neg (show ¬ nI 8 < 8 by decide), if_pos (show nI 8 = 8 from rfl), Bo_fail 3 hB h.1, q_bnd, q_bnd, e3_c14F (FC_f (by decide)), Bo_errs h.1, q_bnd]
      exact ⟨_, _, rfl, rfl, FA_here h.1.1 (by decide)⟩
    · have ho8 : cO W < 8 := by have := hOp.1; omega
      have hB1 : Bo n N b P K V L x (z_set σ 101 9 (nI (cO W + 1))) (z_set τ 0 29 (nI (cO W + 1))) := ⟨⟨h.1.1.1, by rw [s_kn (by omega)]; exact h.1.1.2.1, by rw [s_ne (by omega)]; exact h.1.1.2.2.1, by rw [s_ne (by omega)]; exact h.1.1.2.2.2.1, by rw [s_ne (by omega)]; exact h.1.1.2.2.2.2⟩, (Bo_set0 h.1 (by omega)).2.1, by rw [s_kn (by omega)]; exact h.1.2.2⟩
      have hS1 : Sw W (z_set σ 101 9 (nI (cO W + 1))) (z_set τ 0 29 (nI (cO W + 1))) := Sw_cong hS (s_ne (by omega)) (s_kn (by omega)) (s_ne (by omega)) (s_kn (by omega))
      have hw4 : wR (w :: W) := ⟨by omega, hS.1⟩
      obtain ⟨τ', p1, p2, p3, p4, p5, p6, p7, p8, p9, p10⟩ := r_push hB hB1 hS1 (by omega) qx hw4
      have eJ : cJ (w :: W) = cJ W := by
        show (if w = 12 ∨ w = 13 then 1 else 0) + cJ W = _
        rw [if_neg (by omega)]; omega
      have eO : cO (w :: W) = cO W + 1 := by
        show (if w = 14 ∨ w = 37 then 1 else 0) + cO W = _
        rw [if_pos hw]; omega
      rw [if_pos (show nI (cO W) < 8 from nI_lt (a := cO W) (b := 8) ho8 (by omega)), if_neg (show ¬ nI (cO W) = 8 from fun z => by (have z : nI (cO W) = nI 8 := z; rw [nI_eq (by omega) (by omega)] at z; omega)), nI_1, q_let, p1, q_bnd, q_bnd, p2, q_bnd, p3, q_bnd]
      have hV : VF c σ τ (WC x W.length (nI w) (z_set σ 101 9 (nI (cO W + 1)))) τ' := VF_trans (Nat.le_refl c) (VF_101 (.inr (.inr rfl))) (VF_trans (Nat.le_refl c) (VF_0 (.inr (.inl rfl))) (p6 c))
      have hO' : OPs n N b P K V L f c (x + 1) (w :: W) (WC x W.length (nI w) (z_set σ 101 9 (nI (cO W + 1)))) τ' := by
        refine ⟨⟨p4, p7 c (CD_cong h.2.1 (by rw [s_ne (by omega)]) (s_ne (by omega)) (s_kn (by omega)) (s_ne (by omega)) (s_ne (by omega))), ?_⟩, p5, ⟨by omega, ?_, ?_⟩, ?_⟩
        · rw [p8, s_ne (by omega), eJ]; exact h.2.2
        · rw [p9, s_eq, eO]
        · rw [p10, s_eq, eO]
        · show c + (W.length + 1) ≤ x + 1
          omega
      have hx1 := (Bo_N hB p4).1
      rcases ih (N - (x + 1)) (by omega) (x + 1) (m + 1) q (v + 1) c (w :: W) _ _ rfl (by omega) (by omega) (by omega) hO' with ⟨σ', τ'', x', c', c1, c2, c3, c4, c5, c6, c7, c8⟩ | ⟨σ', τ'', c1, c2, c3⟩
      · exact .inl ⟨σ', τ'', x', c', by omega, c2, c3, c4, c5, c6, c7, VF_trans (Nat.le_refl c) hV c8⟩
      · exact .inr ⟨σ', τ'', c1, c2, FA_VF hV (BL_DK hO'.1 (by omega)) c3⟩
  · -- a C
    have n14 : ¬ K x = 14 := fun z => qo ⟨14, .inl rfl, z⟩
    have n37 : ¬ K x = 37 := fun z => qo ⟨37, .inr rfl, z⟩
    have hclC : f3_readCondition_L14 (m + 2) 1 (nI v) σ = CC (f3_readCondition_L14 (m + 1)) (nI v) σ := by
      conv => lhs; unfold f3_readCondition_L14
      unfold CC
      rw [if_neg (show ¬ 400 < nI v from nI_nlt (a := 400) (b := v) (by omega) (by omega)), i_10, if_pos h.1.2.2, Bo_kind hB h.1, q_bnd, if_neg n14, Bo_kind hB h.1, q_bnd, if_neg n37]
    have hrefC : f12_readAny_L9 (q + 1) (nI (cP W)) 1 τ = z_bnd (f12_readCompared τ) fun r35 σ36 => if r35 = (-1) then some ((-1), σ36) else z_bnd (f12_settles 9 σ36) fun _ σ38 => f12_readAny_L9 q (nI (cP W)) 0 σ38 := by
      conv => lhs; unfold f12_readAny_L9
      rw [i_10, w6, q_bnd, if_neg n14, i_00, w40, q_bnd, if_neg n37, i_00]
    rw [hclC, hrefC]
    rcases r_compared (w := W.length) hB h (by rw [tr_len]; omega) hcx with ⟨σ1, τ1, x1, c1, a1, a2, a3, a4, a5, a6, a7⟩ | ⟨σ1, τ1, a1, a2, a3⟩
    · obtain ⟨hx1, -⟩ := Bo_N hB a6.1
      have hSQ : SQ f c1 W σ1 τ1 := ⟨a6.2.1, a6.2.2, Sw_cong hS (a7.1 105 (by omega) (by omega) (by omega)) (a7.2.1 8 (by omega)) (a7.2.2.2.2.1 16 (by omega) (by omega) (by omega)) (a7.2.2.2.2.2.1 31 (by omega)), Op_cong hOp (a7.2.1 9 (by omega)) (a7.2.2.2.2.2.1 29 (by omega))⟩
      obtain ⟨k3, W5, σ8, τ14, d1, d2, d3, d4, d5, d6, d7, d8, d9, d10⟩ := r_drop (n := n) (N := N) (b := b) (P := P) (K := K) (V := V) (L := L) (w0 := 14) (.inr (.inr rfl)) W c1 σ1 τ1 hSQ (by omega)
      have ht9 : f12_settles 9 τ1 = some ((), τ14) := by
        unfold f12_settles
        rw [hfu, show 1000 = 999 - k3 + k3 + 1 by omega]
        exact d6 _
      have n14' : ∀ u : Int32, u = 12 ∨ u = 13 → ¬ nI 14 < u := fun u hu => by rcases hu with rfl | rfl <;> decide
      rw [a4, a5, q_bnd, if_neg (show ¬ (0 : Int32) = -1 by decide), ht9, q_bnd, ← d4]
      have hV8 : VF c σ τ σ8 τ14 := VF_trans (c' := c1) (by omega) (VF_SF a7) d8
      have hB8 : Bo n N b P K V L x1 σ8 τ14 := ⟨d9 _ a6.1.1, d10 _ a6.1.2.1, by rw [d8.2.1 2 (by omega) (by omega) (by omega)]; exact a6.1.2.2⟩
      have hj : f3_joins σ1 = f3_joins_L2 1000 (nI 0) σ1 := rfl
      rw [hj]
      rcases r_joins hB (N - x1) x1 1000 q 0 (c1 + k3) k3 W5 σ1 σ8 τ14 rfl (by omega) (by omega) (by omega) (by omega) (fun u j hu => d5 u j (n14' u hu)) a6.1.1 a6.1.2.2 hB8 d7 d2 (by omega) with ⟨σ', τ', x', W', c', q', e1, e2, e3, e4, e5, e6, e7⟩ | ⟨σ', τ', x', c', e1, e2, e3, e4, e5, e6, e7, e8⟩ | ⟨σ', τ', e1, e2, e3⟩
      · rw [e4, q_bnd, e5, nI_1]
        have hx2 := (Bo_N hB e6.1.1).1
        have hV9 : VF c σ τ σ' τ' := VF_trans (c' := c1 + k3) (by omega) hV8 e7
        rcases ih (N - x') (by omega) x' (m + 1) q' (v + 1) c' W' _ _ rfl (by omega) (by omega) (by omega) e6 with ⟨σ2, τ2, x2, c2, g1, g2, g3, g4, g5, g6, g7, g8⟩ | ⟨σ2, τ2, g1, g2, g3⟩
        · exact .inl ⟨σ2, τ2, x2, c2, by omega, by omega, g3, g4, g5, g6, g7, VF_trans (c' := c') (by omega) hV9 g8⟩
        · exact .inr ⟨σ2, τ2, g1, g2, FA_VF hV9 (BL_DK e6.1 (by have := e6.2.2.2; omega)) g3⟩
      · rw [e4, q_bnd, e5, e3_c14_0]
        exact .inl ⟨σ', τ', x', c', by omega, by omega, e3, rfl, rfl, e6, e7, VF_trans (c' := c1 + k3) (by omega) hV8 e8⟩
      · rw [e1, q_bnd, e2, e3_c14_0]
        exact .inr ⟨σ', τ', rfl, rfl, FA_VF hV8 ⟨_, by omega, d7.1.1⟩ e3⟩
    · right
      rw [a1, a2, q_bnd, if_pos rfl, e3_c14_0]
      exact ⟨σ1, τ1, rfl, rfl, a3⟩
end
