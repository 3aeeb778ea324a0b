/-! a line of the draft -/
theorem e9_add {k : Nat} {a b c d e : Int32} {σ : z_M} (hk : k < 16) (h : σ 102 2 = nI k) : ∃ σ', f9_add 102 a b c d e σ = some ((), σ') ∧ (∀ x, x ≠ 102 → x ≠ 103 → σ' x = σ x) ∧ σ' 102 2 = nI (k + 1) ∧ (∀ s, s ≠ 2 → σ' 102 s = σ 102 s) ∧ (∀ i, i < 5 * k → σ' 103 i = σ 103 i) ∧ σ' 103 (5 * k) = a ∧ σ' 103 (5 * k + 1) = b ∧ σ' 103 (5 * k + 2) = c ∧ σ' 103 (5 * k + 3) = d ∧ σ' 103 (5 * k + 4) = e := by
  let σ5 := z_set (z_set (z_set (z_set (z_set σ 103 (5 * k) a) 103 (5 * k + 1) b) 103 (5 * k + 2) c) 103 (5 * k + 3) d) 103 (5 * k + 4) e
  have f5 : ∀ x, x ≠ 103 → σ5 x = σ x := fun x q => by
    show z_set (z_set (z_set (z_set (z_set σ 103 (5 * k) a) 103 (5 * k + 1) b) 103 (5 * k + 2) c) 103 (5 * k + 3) d) 103 (5 * k + 4) e x = _
    rw [s_ne q, s_ne q, s_ne q, s_ne q, s_ne q]
  have e5 : nI k * 5 = nI (5 * k) := by
    show nI k * nI 5 = _
    rw [pk_mul, Nat.mul_comm]
  have e55 : nI (5 * k) + 5 = nI (5 * k + 5) := by show nI (5 * k) + nI 5 = _; rw [nI_add]
  have e54 : nI (5 * k) + 4 = nI (5 * k + 4) := by show nI (5 * k) + nI 4 = _; rw [nI_add]
  have e53 : nI (5 * k) + 3 = nI (5 * k + 3) := by show nI (5 * k) + nI 3 = _; rw [nI_add]
  have e52 : nI (5 * k) + 2 = nI (5 * k + 2) := by show nI (5 * k) + nI 2 = _; rw [nI_add]
  have es : S1.2.1 (102 + 1) = 80 := rfl
  refine ⟨z_set σ5 102 2 (nI (k + 1)), ?_, fun x q1 q2 => by rw [s_ne q1]; exact f5 x q2, s_eq, fun s q => by rw [s_kn q, f5 102 (by omega)], fun i hi => ?_, ?_, ?_, ?_, ?_, ?_⟩
  · unfold f9_add
    rw [h, e5, e55, e54, e53, e52, nI_1, es, if_neg (show ¬ Int32.ofNat 80 < nI (5 * k + 5) from nI_nlt (a := 80) (b := 5 * k + 5) (by omega) (by omega)), k_cin _ (by omega) (by omega), q_ix (show 5 * k < 2 ^ 31 by omega), q_let, k_cin _ (by omega) (by omega), q_ix (show 5 * k + 1 < 2 ^ 31 by omega), q_let, k_cin _ (by omega) (by omega), q_ix (show 5 * k + 2 < 2 ^ 31 by omega), q_let, k_cin _ (by omega) (by omega), q_ix (show 5 * k + 3 < 2 ^ 31 by omega), q_let, k_cin _ (by omega) (by omega), q_ix (show 5 * k + 4 < 2 ^ 31 by omega), q_let]
    show z_let (z_set σ5 102 2 (σ5 102 2 + 1)) _ = _
    rw [f5 102 (by omega), h, nI_1, q_let]
  · rw [s_ne (by omega)]
    show z_set (z_set (z_set (z_set (z_set σ 103 (5 * k) a) 103 (5 * k + 1) b) 103 (5 * k + 2) c) 103 (5 * k + 3) d) 103 (5 * k + 4) e 103 i = _
    rw [s_kn (by omega), s_kn (by omega), s_kn (by omega), s_kn (by omega), s_kn (by omega)]
  · rw [s_ne (by omega)]
    show z_set (z_set (z_set (z_set (z_set σ 103 (5 * k) a) 103 (5 * k + 1) b) 103 (5 * k + 2) c) 103 (5 * k + 3) d) 103 (5 * k + 4) e 103 (5 * k) = _
    rw [s_kn (by omega), s_kn (by omega), s_kn (by omega), s_kn (by omega), s_eq]
  · rw [s_ne (by omega)]
    show z_set (z_set (z_set (z_set (z_set σ 103 (5 * k) a) 103 (5 * k + 1) b) 103 (5 * k + 2) c) 103 (5 * k + 3) d) 103 (5 * k + 4) e 103 (5 * k + 1) = _
    rw [s_kn (by omega), s_kn (by omega), s_kn (by omega), s_eq]
  · rw [s_ne (by omega)]
    show z_set (z_set (z_set (z_set (z_set σ 103 (5 * k) a) 103 (5 * k + 1) b) 103 (5 * k + 2) c) 103 (5 * k + 3) d) 103 (5 * k + 4) e 103 (5 * k + 2) = _
    rw [s_kn (by omega), s_kn (by omega), s_eq]
  · rw [s_ne (by omega)]
    show z_set (z_set (z_set (z_set (z_set σ 103 (5 * k) a) 103 (5 * k + 1) b) 103 (5 * k + 2) c) 103 (5 * k + 3) d) 103 (5 * k + 4) e 103 (5 * k + 3) = _
    rw [s_kn (by omega), s_eq]
  · rw [s_ne (by omega)]
    exact s_eq
/-- the line's end: the sign, and the line is in the draft -/
theorem r_finish {n N x k : Nat} {b P : Nat → Nat} {K V L : Nat → Int32} {σ τ : z_M} {a1 a2 a3 a4 a5 : Int32} (hB : TkB n b N P K V L) (hc : AC N K V L x σ) (hm : AM n b P K V L x τ) (h2 : σ 101 2 = 0) (hk : k < 16) (h102 : σ 102 2 = nI k) : (∃ σ' τ', x < N ∧ f3_finish a1 a2 a3 a4 a5 σ = some ((), σ') ∧ f12_readMark 59 τ = some (0, τ') ∧ MF τ τ' ∧ AM n b P K V L (x + 1) τ' ∧ AC N K V L (x + 1) σ' ∧ (σ' 101 2 = 0 ∧ σ' 101 3 = σ 101 3) ∧ XC σ σ' ∧ σ' 104 = σ 104 ∧ σ' 102 2 = nI (k + 1) ∧ (∀ s, s ≠ 2 → σ' 102 s = σ 102 s) ∧ (∀ i, i < 5 * k → σ' 103 i = σ 103 i) ∧ σ' 103 (5 * k) = a1 ∧ σ' 103 (5 * k + 1) = a2 ∧ σ' 103 (5 * k + 2) = a3 ∧ σ' 103 (5 * k + 3) = a4 ∧ σ' 103 (5 * k + 4) = a5) ∨ (f3_finish a1 a2 a3 a4 a5 σ = some ((), FC σ 1 (L x)) ∧ f12_readMark 59 τ = some (-1, FM τ 1 (L x))) := by
  have e59 : nI (sg 0) = 59 := by decide
  rcases r_sign (j := 0) hB hc hm h2 (by omega) with ⟨τ', y0, y1, y2, y3, y4⟩ | ⟨y1, y2⟩
  · rw [e59] at y2
    left
    obtain ⟨σ', z1, z2, z3, z4, z5, z6⟩ := e9_add (a := a1) (b := a2) (c := a3) (d := a4) (e := a5) (σ := z_set σ 101 4 (nI (x + 1))) hk (by rw [s_ne (by omega)]; exact h102)
    have y1 : f3_takes 32 σ = some ((), z_set σ 101 4 (nI (x + 1))) := y1
    have hAC := AC_next hc y0
    have e101 : σ' 101 = z_set σ 101 4 (nI (x + 1)) 101 := z2 101 (by omega) (by omega)
    refine ⟨σ', τ', y0, ?_, y2, y3, y4, ⟨y0, by rw [e101]; exact hAC.2.1, by rw [z2 98 (by omega) (by omega)]; exact hAC.2.2.1, by rw [z2 99 (by omega) (by omega)]; exact hAC.2.2.2.1, by rw [z2 100 (by omega) (by omega)]; exact hAC.2.2.2.2⟩, ⟨by rw [e101, s_kn (by omega)]; exact h2, by rw [e101, s_kn (by omega)]⟩, ⟨fun c hq => by rw [z2 c (by omega) (by omega), s_ne (by omega)], by rw [e101, s_kn (by omega)], by rw [e101, s_kn (by omega)]⟩, by rw [z2 104 (by omega) (by omega), s_ne (by omega)], z3, fun s hs => by rw [z4 s hs, s_ne (by omega)], fun i hi => by rw [z5 i hi, s_ne (by omega)], z6⟩
    unfold f3_finish
    rw [y1, q_bnd, s_kn (by omega), if_pos h2, z1, q_bnd]
  · rw [e59] at y2
    right
    have y1 : f3_takes 32 σ = some ((), FC σ 1 (L x)) := y1
    refine ⟨?_, y2⟩
    unfold f3_finish
    rw [y1, q_bnd, if_neg (FC_f (by decide))]
