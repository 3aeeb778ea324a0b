/-! works, line by line -/
theorem AC_FC {N x : Nat} {K V L : Nat → Int32} {σ : z_M} {f p : Int32} (h : AC N K V L x σ) : AC N K V L x (FC σ f p) := by
  unfold FC
  exact ⟨h.1, by rw [s_kn (by omega), s_kn (by omega)]; exact h.2.1, by rw [s_ne (by omega), s_ne (by omega)]; exact h.2.2.1, by rw [s_ne (by omega), s_ne (by omega)]; exact h.2.2.2.1, by rw [s_ne (by omega), s_ne (by omega)]; exact h.2.2.2.2⟩
theorem FC_at {σ : z_M} {f p : Int32} : FC σ f p 101 2 = f ∧ FC σ f p 101 3 = p := by
  unfold FC
  exact ⟨by rw [s_kn (by omega), s_eq], s_eq⟩
theorem FM_at {τ : z_M} {f p : Int32} : FM τ f p 0 32 = f ∧ FM τ f p 0 33 = p := by
  unfold FM
  exact ⟨by rw [s_kn (by omega), s_eq], s_eq⟩
theorem hi_lt {H v : Nat} (hH : H ≤ 8) (hv : v < 10000) (h : ¬ nI H - 1 < nI v) : v < H := by
  rcases Nat.lt_or_ge v H with q | q
  · exact q
  · exfalso
    apply h
    by_cases q0 : H = 0
    · rw [q0, Int32.lt_iff_toInt_lt, nI_toInt (by omega)]
      have : (nI 0 - 1).toInt = -1 := by decide
      omega
    · rw [show nI H - 1 = nI (H - 1) from by rw [l_1, pk_sub (by omega)]]
      exact nI_lt (by omega) (by omega)
/-- both have told the same fault -/
def Fa (σ τ σ' τ' : z_M) : Prop := ∃ f p, ¬ f = 0 ∧ σ' 101 2 = f ∧ σ' 101 3 = p ∧ τ' 0 32 = f ∧ τ' 0 33 = p ∧ XC σ σ' ∧ XM τ τ'
theorem Fa_of {σ τ σ1 τ1 : z_M} {f p : Int32} (hf : ¬ f = 0) (hc : XC σ σ1) (hm : XM τ τ1) : Fa σ τ (FC σ1 f p) (FM τ1 f p) := ⟨f, p, hf, FC_at.1, FC_at.2, FM_at.1, FM_at.2, XC_trans hc XC_FC, XM_trans hm XM_FM⟩
theorem e3_work57F {v1 v2 s1 : Int32} {σ : z_M} (h2 : ¬ σ 101 2 = 0) : f3_readWork_J57 v1 v2 s1 σ = some ((), σ) := by
  unfold f3_readWork_J57 f3_readWork_J79
  rw [e3_takesF h2, q_bnd, e3_numberF h2, q_bnd, e3_finishF h2, e3_finishF h2, q_bnd, ite_self]
theorem e3_work44F {v1 s0 : Int32} {σ : z_M} (h2 : ¬ σ 101 2 = 0) : f3_readWork_J44 v1 s0 σ = some ((), σ) := by
  unfold f3_readWork_J44
  rw [e3_work57F h2, e3_work57F h2, ite_self]
def DW (H k : Nat) (σ τ : z_M) : Prop := ∀ i, i < k → (τ 18 (36 + 3 * i) = σ 103 (5 * i) ∧ τ 18 (36 + 3 * i + 1) = σ 103 (5 * i + 1) ∧ τ 18 (36 + 3 * i + 2) = σ 103 (5 * i + 2)) ∧ (∃ h, h < H ∧ σ 103 (5 * i) = nI h) ∧ (σ 103 (5 * i + 1) = 0 ∨ σ 103 (5 * i + 1) = 1) ∧ ∃ t, t < 8 ∧ σ 103 (5 * i + 2) = nI t
/-- the last of a line: after the house's number, 'sure' or 'doubts', the thing, the sign -/
theorem r_work57 {n N x k w h : Nat} {b P : Nat → Nat} {K V L : Nat → Int32} {σ τ : z_M} (hB : TkB n b N P K V L) (hc : AC N K V L x σ) (hm : AM n b P K V L x τ) (h2 : σ 101 2 = 0) (hk : k < 12) (h102 : σ 102 2 = nI k) (hw : w = 0 ∨ w = 1) (hkx : K x = nI (20 - w)) : (∃ σ' τ' t x', t < 8 ∧ f3_readWork_J57 (nI h) (nI w) (nI (20 - w)) σ = some ((), σ') ∧ (∀ Q : Int32 → z_M → Option (Int32 × z_M), f12_readWorks_J107 Q (nI k) (nI (36 + 3 * k)) τ = Q (nI (k + 1)) τ') ∧ AC N K V L x' σ' ∧ (σ' 101 2 = 0 ∧ σ' 101 3 = σ 101 3) ∧ AM n b P K V L x' τ' ∧ XC σ σ' ∧ XM τ τ' ∧ σ' 102 2 = nI (k + 1) ∧ (∀ s, s ≠ 2 → σ' 102 s = σ 102 s) ∧ (∀ i, i < 5 * k → σ' 103 i = σ 103 i) ∧ σ' 103 (5 * k) = nI h ∧ σ' 103 (5 * k + 1) = nI w ∧ σ' 103 (5 * k + 2) = nI t ∧ τ' 18 (36 + 3 * k + 2) = nI t ∧ ∀ i, i ≠ 36 + 3 * k + 2 → τ' 18 i = τ 18 i) ∨ ∃ σ' τ', f3_readWork_J57 (nI h) (nI w) (nI (20 - w)) σ = some ((), σ') ∧ (∀ Q : Int32 → z_M → Option (Int32 × z_M), f12_readWorks_J107 Q (nI k) (nI (36 + 3 * k)) τ = some (-1, τ')) ∧ Fa σ τ σ' τ' := by
  have hN : N ≤ 400 := by have := hB.1; have := hB.2.1; omega
  have hlt := x_lt hB hc.1 (fun z => by
    rw [hkx] at z
    have z : nI (20 - w) = nI 43 := z
    rw [nI_eq (by omega) (by omega)] at z; omega)
  obtain ⟨τ1, y1, y2, y3⟩ := AM_next hB hm hlt
  have hc1 := AC_next hc hlt
  have h21 : z_set σ 101 4 (nI (x + 1)) 101 2 = 0 := by rw [s_kn (by omega)]; exact h2
  have e2 : nI (36 + 3 * k) + 2 = nI (36 + 3 * k + 2) := by show _ + nI 2 = _; rw [nI_add]
  have hX1 : XC σ (z_set σ 101 4 (nI (x + 1))) := XC_101 (by omega) (by omega)
  have hb : ∀ (Q : Int32 → z_M → Option (Int32 × z_M)) r τ2, f12_readNumber 0 7 τ1 = some (r, τ2) → f12_readWorks_J107 Q (nI k) (nI (36 + 3 * k)) τ = if r = -1 then some (-1, z_set τ2 18 (36 + 3 * k + 2) r) else z_bnd (f12_readMark 59 (z_set τ2 18 (36 + 3 * k + 2) r)) fun r8 σ9 => if r8 = -1 then some (-1, σ9) else Q (nI (k + 1)) σ9 := by
    intro Q r τ2 e
    unfold f12_readWorks_J107
    rw [y1, q_bnd, e, q_bnd, e2, k_cin _ (by omega) (by omega), q_ix (by omega), q_let, k_cin _ (by omega) (by omega), s_eq, nI_1]
  unfold f3_readWork_J57 f3_readWork_J79
  rw [e3_takes hc hN h2, if_pos hkx, q_bnd]
  rcases r_number (lo := 0) (hi := 7) hB hc1 y3 h21 with ⟨t, τ2, z0, z1, z2, z3, z4, z5, z6, z7, z8⟩ | ⟨f, z1, z2, z3⟩
  · have ht : t < 8 := by
      rcases Nat.lt_or_ge t 8 with q | q
      · exact q
      · exact absurd (show (7 : Int32) < nI t from nI_lt (a := 7) (b := t) (by omega) (by omega)) z4
    have hc2 := AC_next hc1 z0
    have h22 : z_set (z_set σ 101 4 (nI (x + 1))) 101 4 (nI (x + 1 + 1)) 101 2 = 0 := by rw [s_kn (by omega)]; exact h21
    have hm2 : AM n b P K V L (x + 1 + 1) (z_set τ2 18 (36 + 3 * k + 2) (nI t)) := AM_cong z8 (s_ne (by omega)) (s_ne (by omega)) (fun k _ _ => by rw [s_ne (by omega)])
    have hX2 := XM_trans (XM_MF y2) (XM_MF z7)
    rw [z5, q_bnd]
    have hsel : ∀ s, (if nI w = 0 then z_bnd (f3_finish (nI h) 0 (nI t) 0 0 s) (fun _ σ2 => some ((), σ2)) else z_bnd (f3_finish (nI h) 1 (nI t) 0 0 s) (fun _ σ2 => some ((), σ2))) = z_bnd (f3_finish (nI h) (nI w) (nI t) 0 0 s) fun _ σ2 => some ((), σ2) := by
      intro s
      rcases hw with rfl | rfl
      · rw [if_pos (show nI 0 = 0 from rfl)]; rfl
      · rw [if_neg (by decide)]; rfl
    rw [hsel]
    rcases r_finish (a1 := nI h) (a2 := nI w) (a3 := nI t) (a4 := 0) (a5 := 0) (k := k) hB hc2 hm2 h22 (by omega) (by rw [s_ne (by omega), s_ne (by omega)]; exact h102) with ⟨σ', τ', u0, u1, u2, u3, u4, u5, u6, u7, u8, u9, u10, u11, u12, u13, u14, -, -⟩ | ⟨u1, u2⟩
    · left
      rw [u1, q_bnd]
      refine ⟨σ', τ', t, x + 1 + 1 + 1, ht, rfl, fun Q => by rw [hb Q _ _ z6, if_neg (q_neg (by omega)), u2, q_bnd, if_neg (by decide)], u5, ⟨u6.1, by rw [u6.2, s_kn (by omega), s_kn (by omega)]⟩, u4, XC_trans hX1 (XC_trans (XC_101 (by omega) (by omega)) u7), XM_trans hX2 (XM_trans (XM_18 (by omega)) (XM_MF u3)), u9, fun s hs => by rw [u10 s hs, s_ne (by omega), s_ne (by omega)], fun i hi => by rw [u11 i hi, s_ne (by omega), s_ne (by omega)], u12, u13, u14, by rw [u3.1 18 (by omega), s_eq], fun i hi => by rw [u3.1 18 (by omega), s_kn hi, z7.1 18 (by omega), y2.1 18 (by omega)]⟩
    · right
      rw [u1, q_bnd]
      exact ⟨_, _, rfl, fun Q => by rw [hb Q _ _ z6, if_neg (q_neg (by omega)), u2, q_bnd, if_pos rfl], Fa_of (by decide) (XC_trans hX1 (XC_101 (by omega) (by omega))) (XM_trans hX2 (XM_18 (by omega)))⟩
  · right
    have hF := FC_f (σ := z_set σ 101 4 (nI (x + 1))) (p := L (x + 1)) z1
    rw [z2, q_bnd, e3_finishF hF, e3_finishF hF, q_bnd, ite_self]
    refine ⟨_, _, rfl, fun Q => by rw [hb Q _ _ z3, if_pos rfl], f, L (x + 1), z1, FC_at.1, FC_at.2, ?_, ?_, XC_trans hX1 XC_FC, XM_trans (XM_MF y2) (XM_trans XM_FM (XM_18 (by omega)))⟩
    · rw [s_ne (by omega)]; exact FM_at.1
    · rw [s_ne (by omega)]; exact FM_at.2
