/-! the law, line by line -/
/-- the class behind the sum of a line -/
def LT (v1 fr to : Int32) (σ : z_M) : Option (Unit × z_M) := if σ 101 2 = 0 then z_bnd (f3_kind σ) fun r5 σ6 => if r5 = 11 then z_let (z_set σ6 101 4 ((σ6 101 4) + 1)) fun σ7 => z_bnd (f3_readCondition σ7) fun _ σ9 => f3_readLaw_J76 v1 fr to σ9 else f3_readLaw_J76 v1 fr to σ6 else f3_readLaw_J76 v1 fr to σ
/-- the reference behind it -/
def RT (J : z_M → Option (Int32 × z_M)) (τ : z_M) : Option (Int32 × z_M) := z_bnd (f12_isWord 3 τ) fun r13 σ14 => if r13 = 0 then J σ14 else z_bnd (f12_reads σ14) fun _ σ16 => z_bnd (f12_readAny σ16) fun r17 σ18 => if r17 = (-1) then some ((-1), σ18) else J σ18
section
variable {n N : Nat} {b P : Nat → Nat} {K V L : Nat → Int32}
theorem e3_76F {a c d : Int32} {σ : z_M} (h2 : ¬ σ 101 2 = 0) : f3_readLaw_J76 a c d σ = some ((), σ) := by
  unfold f3_readLaw_J76
  rw [e3_finishF h2, q_bnd]
theorem r_when {c x : Nat} {σ τ : z_M} (hB : TkB n b N P K V L) (h : Bo n N b P K V L x σ τ) (hCD : CD c σ τ) (hcx : c ≤ x) (h29 : τ 0 29 = 0) : (∃ σ' τ' x' c', x ≤ x' ∧ c ≤ c' ∧ c' ≤ x' ∧ (∀ v1 fr to, LT v1 fr to σ = f3_readLaw_J76 v1 fr to σ') ∧ (∀ J, RT J τ = J τ') ∧ Bo n N b P K V L x' σ' τ' ∧ CD c' σ' τ' ∧ (c = c' ∨ C_ok (σ' 104) c c') ∧ τ' 0 29 = 0 ∧ VF c σ τ σ' τ') ∨ ∃ σ' τ', (∀ v1 fr to, LT v1 fr to σ = some ((), σ')) ∧ (∀ J, RT J τ = some (-1, τ')) ∧ FA N K V L σ τ σ' τ' := by
  obtain ⟨hx, hN⟩ := Bo_N hB h
  have w3 : f12_isWord 3 τ = some (if K x = 11 then 1 else 0, τ) := e12_isWord (j := 11) h.2.1 (by omega)
  by_cases q : K x = 11
  · have hlt := x_lt hB hx (by rw [q]; decide)
    rw [if_pos q] at w3
    obtain ⟨τ1, y1, y2, y3⟩ := Bo_next hB h (by rw [q]; decide)
    have hO : OPs n N b P K V L c c (x + 1) [] (z_set (z_set (z_set σ 101 4 (nI (x + 1))) 101 8 0) 101 9 0) (z_set τ1 0 31 0) := by
      refine ⟨⟨⟨⟨hlt, ?_, ?_, ?_, ?_⟩, (Bo_set0 y3 (by omega)).2.1, ?_⟩, CD_cong hCD ?_ ?_ ?_ ?_ ?_, WF_nil⟩, ⟨trivial, trivial, ?_, s_eq⟩, ⟨by show 0 ≤ 8; omega, s_eq, ?_⟩, ?_⟩
      · rw [s_kn (by omega), s_kn (by omega), s_eq]
      · rw [s_ne (by omega), s_ne (by omega), s_ne (by omega)]; exact h.1.2.2.1
      · rw [s_ne (by omega), s_ne (by omega), s_ne (by omega)]; exact h.1.2.2.2.1
      · rw [s_ne (by omega), s_ne (by omega), s_ne (by omega)]; exact h.1.2.2.2.2
      · rw [s_kn (by omega), s_kn (by omega), s_kn (by omega)]; exact h.2.2
      · rw [s_ne (by omega), s_ne (by omega), s_ne (by omega)]
      · rw [s_ne (by omega), s_ne (by omega), s_ne (by omega)]
      · rw [s_kn (by omega), y2.2 28 (by omega)]
      · rw [s_ne (by omega), y2.1 14 (by omega)]
      · rw [s_ne (by omega), y2.1 15 (by omega)]
      · rw [s_kn (by omega), s_eq]; rfl
      · rw [s_kn (by omega), y2.2 29 (by omega)]; exact h29
      · show c + 0 ≤ x + 1
        omega
    have hV : VF c σ τ (z_set (z_set (z_set σ 101 4 (nI (x + 1))) 101 8 0) 101 9 0) (z_set τ1 0 31 0) := VF_trans (Nat.le_refl c) (VF_SF (SF_tok QF_set y2)) (VF_trans (Nat.le_refl c) (VF_101 (.inr (.inl rfl))) (VF_trans (Nat.le_refl c) (VF_101 (.inr (.inr rfl))) (VF_0 (.inr (.inr rfl)))))
    have hcls : ∀ v1 fr to, LT v1 fr to σ = z_bnd (f3_readCondition_L14 1000 1 (nI 0) (z_set (z_set (z_set σ 101 4 (nI (x + 1))) 101 8 0) 101 9 0)) fun _ σ9 => f3_readLaw_J76 v1 fr to σ9 := fun v1 fr to => by
      unfold LT f3_readCondition
      rw [if_pos h.2.2, Bo_kind hB h, q_bnd, if_pos q, h.1.2.1, nI_1, q_let, q_let, q_let]
      rfl
    have href : ∀ J, RT J τ = z_bnd (f12_readAny_L9 1000 (nI (cP [])) 1 (z_set τ1 0 31 0)) fun r17 σ18 => if r17 = (-1) then some ((-1), σ18) else J σ18 := fun J => by
      unfold RT f12_readAny
      rw [w3, q_bnd, i_10, y1, q_bnd, q_let]
      rfl
    rcases r_cond hB (N - (x + 1)) (x + 1) 1000 1000 0 c [] _ _ rfl (by omega) (by omega) (by omega) hO with ⟨σ', τ', x', c', c1, c2, c3, c4, c5, c6, c7, c8⟩ | ⟨σ', τ', c1, c2, c3⟩
    · exact .inl ⟨σ', τ', x', c', by omega, c2, c3, fun v1 fr to => by rw [hcls, c4, q_bnd], fun J => by rw [href, c5, q_bnd, if_neg (show ¬ (0 : Int32) = -1 by decide)], c6.1, c6.2.1, .inr (C_ok_WF c6.2.2), c7, VF_trans (Nat.le_refl c) hV c8⟩
    · exact .inr ⟨σ', τ', fun v1 fr to => by rw [hcls, c1, q_bnd, e3_76F (FA_ne c3)], fun J => by rw [href, c2, q_bnd, if_pos rfl], FA_VF hV (BL_DK hO.1 (by omega)) c3⟩
  · rw [if_neg q] at w3
    refine .inl ⟨σ, τ, x, c, Nat.le_refl x, Nat.le_refl c, hcx, fun v1 fr to => ?_, fun J => ?_, h, hCD, .inl rfl, h29, VF_refl⟩
    · unfold LT
      rw [if_pos h.2.2, Bo_kind hB h, q_bnd, if_neg q]
    · unfold RT
      rw [w3, q_bnd, i_00]
theorem e12_signs (p : Int32) (τ : z_M) : f12_isSign p τ = some (if τ 0 17 = 4 then (if τ 0 18 = p then 1 else 0) else 0, τ) := by
  unfold f12_isSign f12_isSign_J20
  repeat' split
  all_goals rfl
theorem e12_J92 {k : Nat} {k2 : Int32 → z_M → Option (Int32 × z_M)} {v1 : Int32} {τ : z_M} (hk : k < 16) : f12_readLaw_J92 k2 v1 (nI (32 + k)) τ = z_bnd (f12_readMark 59 (z_set τ 13 (32 + k) (τ 0 28))) fun r σ => if r = -1 then some (-1, σ) else k2 (v1 + 1) σ := by
  unfold f12_readLaw_J92 f12_readLaw_J111 f12_readMark f12_errs
  rw [k_cin _ (by omega) (by omega), q_ix (by omega), q_let, e12_signs, q_bnd, q_bnd]
  generalize (if z_set τ 13 (32 + k) (τ 0 28) 0 17 = 4 then (if z_set τ 13 (32 + k) (τ 0 28) 0 18 = 59 then (1 : Int32) else 0) else 0) = r
  by_cases q : r = 0
  · rw [if_pos q, if_pos q]; rfl
  · rw [if_neg q, if_neg q]
    rcases f12_reads (z_set τ 13 (32 + k) (τ 0 28)) with _ | ⟨r, s⟩ <;> rfl
def DL (k c : Nat) (σ τ : z_M) : Prop := ∀ i, i < k → (∃ f t e, σ 103 (5 * i + 1) = nI f ∧ σ 103 (5 * i + 2) = nI t ∧ σ 103 (5 * i + 3) = nI e ∧ τ 11 (32 + i) = nI f ∧ τ 12 (32 + i) = nI t ∧ τ 13 (32 + i) = nI e ∧ e ≤ c ∧ C_ok (σ 104) f t ∧ (t = e ∨ C_ok (σ 104) t e)) ∧ ((σ 103 (5 * i) = 8 ∧ τ 10 (32 + i) = 0) ∨ (σ 103 (5 * i) = 9 ∧ τ 10 (32 + i) = 1) ∨ (σ 103 (5 * i) = 10 ∧ τ 10 (32 + i) = 2))
def IL (n N : Nat) (b P : Nat → Nat) (K V L : Nat → Int32) (k x : Nat) (σ τ : z_M) : Prop := Bo n N b P K V L x σ τ ∧ k ≤ 16 ∧ σ 101 3 = -1 ∧ σ 101 6 = 16 ∧ σ 102 2 = nI k ∧ (∃ c, c ≤ x ∧ CD c σ τ ∧ DL k c σ τ) ∧ τ 0 29 = 0 ∧ τ 0 27 = 1
theorem e12_line {x : Nat} {τ : z_M} (h : AM n b P K V L x τ) : f12_isLineWord τ = some (if K x = 8 ∨ K x = 9 ∨ K x = 10 then 1 else 0, τ) := by
  have w0 : f12_isWord 0 τ = some (if K x = 8 then 1 else 0, τ) := e12_isWord (j := 8) h (by omega)
  have w1 : f12_isWord 1 τ = some (if K x = 9 then 1 else 0, τ) := e12_isWord (j := 9) h (by omega)
  have w2 : f12_isWord 2 τ = some (if K x = 10 then 1 else 0, τ) := e12_isWord (j := 10) h (by omega)
  unfold f12_isLineWord
  rw [w0, q_bnd, w1, q_bnd, w2, q_bnd]
  by_cases q0 : K x = 8
  · rw [if_pos q0, i_10, if_pos (.inl q0)]
  · rw [if_neg q0, i_00]
    by_cases q1 : K x = 9
    · rw [if_pos q1, i_10, if_pos (.inr (.inl q1))]
    · rw [if_neg q1, i_00]
      by_cases q2 : K x = 10
      · rw [if_pos q2, i_10, if_pos (.inr (.inr q2))]
      · rw [if_neg q2, i_00, if_neg (fun z => by rcases z with z | z | z <;> contradiction)]
theorem e3_23F {v1 : Int32} {σ : z_M} (h2 : ¬ σ 101 2 = 0) : (z_bnd (f3_readSum σ) fun _ σ4 => LT v1 (σ 102 3) (σ4 102 3) σ4) = some ((), σ) := by
  rw [e3_sumF h2, q_bnd]
  unfold LT
  rw [if_neg h2, e3_76F h2]
theorem v_lw : ∀ e, e < 3 → ¬ nI (8 + e) < 8 ∧ ¬ 10 < nI (8 + e) ∧ (nI (8 + e) = 8 ∨ nI (8 + e) = 9 ∨ nI (8 + e) = 10) ∧ nI (wp (8 + e)) = nI e := by decide +kernel
theorem r_law1 {k x : Nat} {σ τ : z_M} (hB : TkB n b N P K V L) (hI : IL n N b P K V L k x σ τ) (hend : ¬ K x = 43) : (∃ σ' τ' x', k < 16 ∧ f3_readLaw σ = some ((), σ') ∧ (∀ m, f12_readLaw_L2 (m + 1) (nI k) τ = f12_readLaw_L2 m (nI (k + 1)) τ') ∧ IL n N b P K V L (k + 1) x' σ' τ' ∧ XC σ σ' ∧ XM τ τ') ∨ ∃ σ' τ', f3_readLaw σ = some ((), σ') ∧ (∀ m, f12_readLaw_L2 (m + 1) (nI k) τ = some (-1, τ')) ∧ Fa σ τ σ' τ' := by
  obtain ⟨h, hk, h3, h6, h102, ⟨c, hcx, hCD, hD⟩, h29, h27⟩ := hI
  obtain ⟨hx, hN⟩ := Bo_N hB h
  have hlt := x_lt hB hx hend
  have wl := e12_line h.2.1
  have h23 : ∀ v1 s1, f3_readLaw_J23 v1 s1 σ = z_bnd (f3_begins s1 σ) fun _ σ2 => z_bnd (f3_readSum σ2) fun _ σ4 => LT v1 (σ2 102 3) (σ4 102 3) σ4 := fun _ _ => rfl
  by_cases qw : ∃ e, e < 3 ∧ K x = nI (8 + e)
  · obtain ⟨e, he, qx⟩ := qw
    obtain ⟨v1, v2, v3, v4⟩ := v_lw e he
    rw [if_pos (by rw [qx]; exact v3)] at wl
    have hcls : f3_readLaw σ = f3_readLaw_J23 (nI (8 + e)) 1 σ := by
      unfold f3_readLaw
      rw [Bo_kind hB h, q_bnd, qx, if_neg v1, if_neg v2]
    rw [hcls, h23]
    unfold f3_begins
    rw [i_10, h102, h6]
    by_cases k16 : k = 16
    · right
      rw [if_neg (show ¬ nI k < 16 from nI_nlt (a := k) (b := 16) (by omega) (by omega)), Bo_fail 3 hB h, q_bnd, q_bnd, e3_23F (FC_f (by decide))]
      refine ⟨_, FM τ 3 (L x), rfl, fun m => ?_, (FA_here h.1 (by decide)).1⟩
      unfold f12_readLaw_L2 f12_readLaw_J15
      rw [wl, q_bnd, i_10, k16, if_pos (show nI 16 = 16 from rfl), Bo_errs h, q_bnd]
    · have hk' : k < 16 := by omega
      obtain ⟨-, -, -, -, t⟩ := h.2.1
      have e18 : τ 0 18 = nI e := by
        rcases AM_wd h.2.1 with ⟨j, hj, a1, a2, a3⟩ | ⟨a1, -⟩
        · rw [qx, nI_eq (by omega) (by omega)] at a1
          rw [a3, ← a1, v4]
        · exact absurd qx (a1 _ (by omega))
      have h1 : Bo n N b P K V L x σ (z_set τ 10 (32 + k) (nI e)) := Bo_set h (by omega)
      obtain ⟨τ1, y1, y2, y3⟩ := Bo_next hB h1 hend
      have e28 : τ1 0 28 = nI c := by rw [y2.2 28 (by omega), s_ne (by omega)]; exact hCD.2.1
      have hBL : BL n N b P K V L c c (x + 1) [] (z_set σ 101 4 (nI (x + 1))) (z_set τ1 11 (32 + k) (nI c)) := ⟨Bo_set y3 (by omega), CD_cong hCD (by rw [s_ne (by omega)]) (s_ne (by omega)) (by rw [s_ne (by omega), y2.2 28 (by omega), s_ne (by omega)]) (by rw [s_ne (by omega), y2.1 14 (by omega), s_ne (by omega)]) (by rw [s_ne (by omega), y2.1 15 (by omega), s_ne (by omega)]), WF_nil⟩
      have hXC1 : XC σ (z_set σ 101 4 (nI (x + 1))) := XC_QF QF_set
      have X10 : ∀ (d i : Nat) (v : Int32) (s : z_M), 10 ≤ d → d ≤ 13 → 32 ≤ i → XM s (z_set s d i v) := fun d i v s d1 d2 i1 => ⟨fun j _ a => s_ne (by omega), fun j _ => by rw [s_ne (by omega)], fun j a1 a2 l hl => by
        by_cases z : j = d
        · subst z; exact s_kn (by omega)
        · rw [s_ne z], fun j _ => by rw [s_ne (by omega), s_ne (by omega)]; exact ⟨rfl, rfl⟩, fun j _ => by rw [s_ne (by omega)], fun j _ => by rw [s_ne (by omega)], fun j _ => by rw [s_ne (by omega)]⟩
      have hXM1 : XM τ (z_set τ1 11 (32 + k) (nI c)) := XM_trans (X10 10 _ _ _ (by omega) (by omega) (by omega)) (XM_trans (XM_MF y2) (X10 11 _ _ _ (by omega) (by omega) (by omega)))
      have e32 : (32 : Int32) + nI k = nI (32 + k) := by show nI 32 + nI k = _; rw [nI_add]
      have href : ∀ m, f12_readLaw_L2 (m + 1) (nI k) τ = z_bnd (f12_readSum (z_set τ1 11 (32 + k) (nI c))) fun r9 σ10 => if r9 = (-1) then some ((-1), σ10) else RT (fun s => z_bnd (f12_readMark 59 (z_set s 13 (32 + k) (s 0 28))) fun r σ => if r = -1 then some (-1, σ) else f12_readLaw_L2 m (nI (k + 1)) σ) (z_set σ10 12 (32 + k) (σ10 0 28)) := by
        intro m
        conv => lhs; unfold f12_readLaw_L2
        rw [wl, q_bnd, i_10, if_neg (show ¬ nI k = 16 from fun z => by (have z : nI k = nI 16 := z; rw [nI_eq (by omega) (by omega)] at z; omega)), e32, k_cin _ (by omega) (by omega), q_ix (by omega), e18, q_let, y1, q_bnd, k_cin _ (by omega) (by omega), e28, q_let]
        unfold RT
        rcases f12_readSum (z_set τ1 11 (32 + k) (nI c)) with _ | ⟨r, s⟩
        · rfl
        · rw [q_bnd, q_bnd, k_cin _ (by omega) (by omega), q_let]
          simp only [e12_J92 hk', nI_1]
      rw [if_pos (show nI k < 16 from nI_lt (a := k) (b := 16) (by omega) (by omega)), h.1.2.1, nI_1, q_let, q_bnd, hBL.2.1.1]
      rcases r_sum (w := 1) hB hBL (by show 0 ≤ 26; omega) (by omega) with ⟨σ2, τ2, x2, c2, a1, a2, a3, a4, a5, a6, a7⟩ | ⟨σ2, τ2, a1, a2, a3⟩
      · rw [a4, q_bnd, a6.2.1.1]
        have e282 : τ2 0 28 = nI c2 := a6.2.1.2.1
        have h2 : Bo n N b P K V L x2 σ2 (z_set τ2 12 (32 + k) (nI c2)) := Bo_set a6.1 (by omega)
        have hCD2 : CD c2 σ2 (z_set τ2 12 (32 + k) (nI c2)) := CD_cong a6.2.1 rfl rfl (by rw [s_ne (by omega)]) (s_ne (by omega)) (s_ne (by omega))
        have hXC2 : XC σ σ2 := XC_trans hXC1 (SF_XC a7)
        have hXM2 : XM τ (z_set τ2 12 (32 + k) (nI c2)) := XM_trans hXM1 (XM_trans (SF_XM a7) (X10 12 _ _ _ (by omega) (by omega) (by omega)))
        have h292 : z_set τ2 12 (32 + k) (nI c2) 0 29 = 0 := by rw [s_ne (by omega), a7.2.2.2.2.2.1 29 (by omega), s_ne (by omega), y2.2 29 (by omega), s_ne (by omega)]; exact h29
        rcases r_when hB h2 hCD2 (by omega) h292 with ⟨σ3, τ3, x3, c3, b1, b2, b3, b4, b5, b6, b7, b8, b9, b10⟩ | ⟨σ3, τ3, b1, b2, b3⟩
        · have h102' : σ3 102 2 = nI k := by rw [b10.2.2.1 2 (by omega), a7.2.2.1 2 (by omega), s_ne (by omega)]; exact h102
          have h4 : Bo n N b P K V L x3 σ3 (z_set τ3 13 (32 + k) (nI c3)) := Bo_set b6 (by omega)
          have hXC3 : XC σ σ3 := XC_trans hXC2 (VF_XC b10)
          have hXM3 : XM τ (z_set τ3 13 (32 + k) (nI c3)) := XM_trans hXM2 (XM_trans (VF_XM b10) (X10 13 _ _ _ (by omega) (by omega) (by omega)))
          rw [b4]
          unfold f3_readLaw_J76
          rw [b7.1]
          rcases g_finish (nI (8 + e)) (nI c) (nI c2) (nI c3) 0 hB h4 hk' h102' with ⟨σ5, τ5, g1, g2, g3, g4, g5⟩ | ⟨σ5, τ5, g1, g2, g3⟩
          · left
            obtain ⟨l1, l2, l3, l4, l5, l6, l7, l8, l9, l10, -⟩ := g5
            rw [g1, q_bnd]
            have c103 : ∀ i, i < 5 * k → σ5 103 i = σ 103 i := fun i hi => by rw [l6 i hi, b10.1 103 (by omega) (by omega) (by omega) (by omega), a7.1 103 (by omega) (by omega) (by omega), s_ne (by omega)]
            have c104 : ∀ i, i < c → σ5 104 i = σ 104 i := fun i hi => by rw [l3, b10.2.2.2.1 i (by omega), a7.2.2.2.1 i hi, s_ne (by omega)]
            have m10 : ∀ i, τ5 10 i = if i = 32 + k then nI e else τ 10 i := fun i => by
              rw [g3.1 10 (by omega), s_ne (by omega), b10.2.2.2.2.1 10 (by omega) (by omega) (by omega) (by omega), s_ne (by omega), a7.2.2.2.2.1 10 (by omega) (by omega) (by omega), s_ne (by omega), y2.1 10 (by omega)]
              by_cases z : i = 32 + k
              · rw [if_pos z, z, s_eq]
              · rw [if_neg z, s_kn z]
            have m11 : ∀ i, τ5 11 i = if i = 32 + k then nI c else τ 11 i := fun i => by
              rw [g3.1 11 (by omega), s_ne (by omega), b10.2.2.2.2.1 11 (by omega) (by omega) (by omega) (by omega), s_ne (by omega), a7.2.2.2.2.1 11 (by omega) (by omega) (by omega)]
              by_cases z : i = 32 + k
              · rw [if_pos z, z, s_eq]
              · rw [if_neg z, s_kn z, y2.1 11 (by omega), s_ne (by omega)]
            have m12 : ∀ i, τ5 12 i = if i = 32 + k then nI c2 else τ 12 i := fun i => by
              rw [g3.1 12 (by omega), s_ne (by omega), b10.2.2.2.2.1 12 (by omega) (by omega) (by omega) (by omega)]
              by_cases z : i = 32 + k
              · rw [if_pos z, z, s_eq]
              · rw [if_neg z, s_kn z, a7.2.2.2.2.1 12 (by omega) (by omega) (by omega), s_ne (by omega), y2.1 12 (by omega), s_ne (by omega)]
            have m13 : ∀ i, τ5 13 i = if i = 32 + k then nI c3 else τ 13 i := fun i => by
              rw [g3.1 13 (by omega)]
              by_cases z : i = 32 + k
              · rw [if_pos z, z, s_eq]
              · rw [if_neg z, s_kn z, b10.2.2.2.2.1 13 (by omega) (by omega) (by omega) (by omega), s_ne (by omega), a7.2.2.2.2.1 13 (by omega) (by omega) (by omega), s_ne (by omega), y2.1 13 (by omega), s_ne (by omega)]
            refine ⟨σ5, τ5, x3 + 1, hk', rfl, fun m => ?_, ⟨g4, by omega, ?_, (XC_trans hXC3 l1).2.2.trans h6, l4, ⟨c3, by omega, CD_cong b7 (l5 3 (by omega)) l3 ?_ ?_ ?_, fun i hi => ?_⟩, ?_, ?_⟩, XC_trans hXC3 l1, XM_trans hXM3 (XM_MF g3)⟩
            · rw [href m, a5, q_bnd, if_neg (show ¬ (0 : Int32) = -1 by decide), e282, b5, b7.2.1, g2, q_bnd, if_neg (show ¬ (0 : Int32) = -1 by decide)]
            · rw [l2, b10.2.1 3 (by omega) (by omega) (by omega), a7.2.1 3 (by omega), s_kn (by omega)]; exact h3
            · rw [g3.2 28 (by omega), s_ne (by omega)]
            · rw [g3.1 14 (by omega), s_ne (by omega)]
            · rw [g3.1 15 (by omega), s_ne (by omega)]
            · by_cases ei : i = k
              · subst ei
                rw [l7, l8, l9, l10, m10, m11, m12, m13, if_pos rfl, if_pos rfl, if_pos rfl, if_pos rfl]
                refine ⟨⟨c, c2, c3, rfl, rfl, rfl, rfl, rfl, rfl, Nat.le_refl c3, ?_, ?_⟩, ?_⟩
                · rw [l3]
                  exact C_ok_cong (C_ok_WF a6.2.2) (fun j hj => b10.2.2.2.1 j hj)
                · rw [l3]; exact b8
                · have he : e = 0 ∨ e = 1 ∨ e = 2 := by omega
                  rcases he with rfl | rfl | rfl
                  · exact .inl ⟨rfl, rfl⟩
                  · exact .inr (.inl ⟨rfl, rfl⟩)
                  · exact .inr (.inr ⟨rfl, rfl⟩)
              · rw [c103 _ (by omega), c103 _ (by omega), c103 _ (by omega), c103 _ (by omega), m10, m11, m12, m13, if_neg (by omega), if_neg (by omega), if_neg (by omega), if_neg (by omega)]
                obtain ⟨⟨f, t, u, u1, u2, u3, u4, u5, u6, u7, u8, u9⟩, u10⟩ := hD i (by omega)
                have htu : t ≤ u := by
                  rcases u9 with z | z
                  · omega
                  · exact z.1
                exact ⟨⟨f, t, u, u1, u2, u3, u4, u5, u6, by omega, C_ok_cong u8 (fun j hj => c104 j (by omega)), u9.imp id (fun z => C_ok_cong z (fun j hj => c104 j (by omega)))⟩, u10⟩
            · rw [g3.2 29 (by omega), s_ne (by omega)]; exact b9
            · rw [g3.2 27 (by omega), s_ne (by omega), b10.2.2.2.2.2.1 27 (by omega), s_ne (by omega), a7.2.2.2.2.2.1 27 (by omega), s_ne (by omega), y2.2 27 (by omega), s_ne (by omega)]; exact h27
          · right
            rw [g1, q_bnd]
            refine ⟨σ5, τ5, rfl, fun m => ?_, Fa_trans hXC3 hXM3 g3.1⟩
            rw [href m, a5, q_bnd, if_neg (show ¬ (0 : Int32) = -1 by decide), e282, b5, b7.2.1, g2, q_bnd, if_pos rfl]
        · right
          rw [b1]
          refine ⟨σ3, τ3, rfl, fun m => ?_, Fa_trans hXC2 hXM2 b3.1⟩
          rw [href m, a5, q_bnd, if_neg (show ¬ (0 : Int32) = -1 by decide), e282, b2]
      · right
        have hF := FA_ne a3
        rw [a1, q_bnd]
        refine ⟨σ2, τ2, ?_, fun m => ?_, Fa_trans hXC1 hXM1 a3.1⟩
        · unfold LT
          rw [if_neg hF, e3_76F hF]
        · rw [href m, a2, q_bnd, if_pos rfl]
  · right
    obtain ⟨j, hj, ej⟩ := AM_k h.2.1
    have n0 : ∀ e, e < 3 → ¬ j = 8 + e := fun e he z => qw ⟨e, he, by rw [ej, z]⟩
    have n8 := n0 0 (by omega)
    have n9 := n0 1 (by omega)
    have n10 := n0 2 (by omega)
    have ne : ∀ i, i < 100 → j ≠ i → ¬ K x = nI i := fun i hi e z => by
      rw [ej, nI_eq (by omega) (by omega)] at z; exact e z
    rw [if_neg (fun z => by
      rcases z with z | z | z
      · exact ne 8 (by omega) (by omega) z
      · exact ne 9 (by omega) (by omega) z
      · exact ne 10 (by omega) (by omega) z)] at wl
    have hcls : f3_readLaw σ = f3_readLaw_J23 (K x) 0 σ := by
      unfold f3_readLaw f3_readLaw_J22
      rw [Bo_kind hB h, q_bnd]
      rcases Nat.lt_or_ge j 8 with q | q
      · rw [if_pos (show K x < 8 by rw [ej]; exact nI_lt (a := j) (b := 8) q (by omega))]
      · rw [if_pos (show 10 < K x by rw [ej]; exact nI_lt (a := 10) (b := j) (by omega) (by omega)), ite_self]
    rw [hcls, h23]
    unfold f3_begins
    rw [i_00, Bo_fail 1 hB h, q_bnd, q_bnd, e3_23F (FC_f (by decide))]
    refine ⟨_, FM τ 1 (L x), rfl, fun m => ?_, (FA_here h.1 (by decide)).1⟩
    unfold f12_readLaw_L2 f12_readLaw_J128
    rw [wl, q_bnd, i_00, if_neg (fun z => hend ((AM_end h.2.1).mp z)), Bo_errs h, q_bnd]
theorem r_law {σ τ : z_M} (hB : TkB n b N P K V L) (hI : IL n N b P K V L 0 0 σ τ) : (∃ σ' τ' k' x', k' ≤ 16 ∧ f3_read_L63 z_fu 1 0 σ = some (1, σ') ∧ f12_readLaw τ = some (nI k', τ') ∧ IL n N b P K V L k' x' σ' τ' ∧ XC σ σ' ∧ XM τ τ') ∨ ∃ σ' τ', f3_read_L63 z_fu 1 0 σ = some (0, σ') ∧ f12_readLaw τ = some (-1, τ') ∧ Fa σ τ σ' τ' := by
  refine g_loop (K := K) (v1 := 1) (mx := 16) f3_readLaw f12_readLaw_L2 (IL n N b P K V L) (fun m k x σ τ h => ?_) (fun m k x σ τ h q => ?_) (fun k x σ τ h q => r_law1 hB h q) 16 0 0 z_fu z_fu σ τ (by omega) (by decide) (by decide) hI
  · rw [g_cls (mx := 16) hB h.1 h.2.1 (by omega) h.2.2.2.1, if_neg (show ¬ (1 : Int32) = 0 by decide), if_pos (show (1 : Int32) = 1 from rfl)]
  · have wl := e12_line h.1.2.1
    rw [if_neg (fun z => by rw [q] at z; exact absurd z (by decide))] at wl
    unfold f12_readLaw_L2 f12_readLaw_J128
    rw [wl, q_bnd, i_00, if_pos ((AM_end h.1.2.1).mpr q)]
end
