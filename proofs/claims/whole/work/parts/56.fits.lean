/-! fits, ask -/
/-- does the talk i gainsay the set s for the house h -/
def erB (ta : Nat → Int32) (h s i : Nat) : Bool := decide (ta (3 * i) = nI h) && decide ((if s.testBit (z_ix (ta (3 * i + 1))) = true then (1 : Int32) else 0) = ta (3 * i + 2))
def ftB (ta : Nat → Int32) (n mo h e s : Nat) : Bool := !decide (mo < pc s) && !decide (e < cN (erB ta h s) n)
/-- TALKS and MOST, on both sides -/
def TS (n mo : Nat) (ta : Nat → Int32) (σ τ : z_M) : Prop := n ≤ 12 ∧ mo ≤ 8 ∧ σ 1 11 = nI n ∧ τ 0 52 = nI n ∧ σ 1 1 = nI mo ∧ τ 0 7 + 3 = nI mo ∧ σ 16 = ta ∧ ∀ i, i < n → (τ 29 i = ta (3 * i) ∧ τ 30 i = ta (3 * i + 1) ∧ τ 31 i = ta (3 * i + 2)) ∧ z_ix (ta (3 * i + 1)) < 8 ∧ ta (3 * i + 1) = nI (z_ix (ta (3 * i + 1)))
theorem TS_cong {n mo : Nat} {ta : Nat → Int32} {σ σ' τ : z_M} (h : TS n mo ta σ τ) (e1 : σ' 1 = σ 1) (e2 : σ' 16 = σ 16) : TS n mo ta σ' τ := by
  unfold TS at h ⊢
  rw [e1, e2]; exact h
theorem cN_s {p : Nat → Bool} {k : Nat} : cN p (k + 1) = cN p k + if p k = true then 1 else 0 := rfl
theorem e6_fitL {n mo h e s : Nat} {ta : Nat → Int32} {σ τ : z_M} (H : TS n mo ta σ τ) (hs : s < 256) (he : e ≤ 3) : ∀ (r k f : Nat), k + r = n → r < f → f6_isFit_L20 f 1 (nI h) (nI e) (nI s) (nI (cN (erB ta h s) k)) (nI k) σ = some (if e < cN (erB ta h s) n then 0 else 1, σ)
  | 0, k, f, h1, h2 => by
    obtain ⟨f, rfl⟩ : ∃ m, f = m + 1 := ⟨f - 1, by omega⟩
    obtain rfl : k = n := by omega
    have hn := H.1
    have hc := cN_le (erB ta h s) k
    unfold f6_isFit_L20 f6_isFit_J85
    rw [H.2.2.1, if_neg (nI_nlt (by omega) (by omega))]
    by_cases q : e < cN (erB ta h s) k
    · rw [if_pos q, if_pos (nI_lt q (by omega))]
    · rw [if_neg q, if_neg (nI_nlt (by omega) (by omega))]
  | r + 1, k, f, h1, h2 => by
    obtain ⟨f, rfl⟩ : ∃ m, f = m + 1 := ⟨f - 1, by omega⟩
    have hn := H.1
    have ih := e6_fitL H hs he r (k + 1) f (by omega) (by omega) (h := h)
    obtain ⟨-, t1, t2⟩ := H.2.2.2.2.2.2.2 k (by omega)
    have e16 : σ (1 + 15) = ta := H.2.2.2.2.2.2.1
    have i0 : nI k * 3 = nI (3 * k) := by rw [l_3, pk_mul, Nat.mul_comm]
    have i1 : nI (3 * k) + 1 = nI (3 * k + 1) := nI_1 _
    have i2 : nI (3 * k) + 2 = nI (3 * k + 2) := by rw [l_2, nI_add]
    unfold f6_isFit_L20
    rw [H.2.2.1, if_pos (nI_lt (by omega) (by omega)), e16, i0, i1, i2, k_cin _ (by omega) (by omega), q_let, k_cin _ (by omega) (by omega), k_cin _ (by omega) (by omega), q_ix (show 3 * k + 1 < 2 ^ 31 by omega), q_ix (show 3 * k < 2 ^ 31 by omega), q_ix (show 3 * k + 2 < 2 ^ 31 by omega), t2, k_bit s hs _ t1, nI_1, nI_1]
    rw [cN_s (k := k)] at ih
    have hB : erB ta h s k = (decide (ta (3 * k) = nI h) && decide ((if s.testBit (z_ix (ta (3 * k + 1))) = true then (1 : Int32) else 0) = ta (3 * k + 2))) := rfl
    by_cases c1 : ta (3 * k) = nI h
    · rw [if_pos c1]
      by_cases c2 : (if s.testBit (z_ix (ta (3 * k + 1))) = true then (1 : Int32) else 0) = ta (3 * k + 2)
      · rw [hB, decide_eq_true c1, decide_eq_true c2] at ih
        rw [if_pos c2]; exact ih
      · rw [hB, decide_eq_true c1, decide_eq_false c2] at ih
        rw [if_neg c2]; exact ih
    · rw [hB, decide_eq_false c1, Bool.false_and] at ih
      rw [if_neg c1]; exact ih
theorem e6_fit {n mo h e s : Nat} {ta : Nat → Int32} {σ τ : z_M} (H : TS n mo ta σ τ) (hs : s < 256) (he : e ≤ 3) : f6_isFit 1 (nI h) (nI e) (nI s) σ = some (if ftB ta n mo h e s = true then 1 else 0, σ) := by
  have hn := H.1
  have hm := H.2.1
  have hp := pc_le s
  unfold f6_isFit ftB
  rw [e_bc hs, q_bnd, H.2.2.2.2.1]
  by_cases q : mo < pc s
  · rw [if_pos (nI_lt q (by omega)), decide_eq_true q]; rfl
  · have e1 : f6_isFit_L20 z_fu 1 (nI h) (nI e) (nI s) 0 0 σ = _ := e6_fitL H hs he n 0 z_fu (by omega) (show n < 1000 by omega)
    rw [if_neg (nI_nlt (by omega) (by omega)), decide_eq_false q, e1]
    by_cases q2 : e < cN (erB ta h s) n
    · rw [if_pos q2, decide_eq_true q2]; rfl
    · rw [if_neg q2, decide_eq_false q2]; rfl
theorem e12_fitL {n mo h e s : Nat} {ta : Nat → Int32} {σ τ : z_M} (H : TS n mo ta σ τ) (hs : s < 256) (he : e ≤ 3) : ∀ (r k f : Nat), k + r = n → r < f → f12_doesFit_L6 f (nI h) (nI s) (nI e) (nI (cN (erB ta h s) k)) (nI k) τ = some (if ftB ta n mo h e s = true then 1 else 0, τ)
  | 0, k, f, h1, h2 => by
    obtain ⟨f, rfl⟩ : ∃ m, f = m + 1 := ⟨f - 1, by omega⟩
    obtain rfl : k = n := by omega
    have hn := H.1
    have hm := H.2.1
    have hp := pc_le s
    have hc := cN_le (erB ta h s) k
    unfold f12_doesFit_L6 f12_doesFit_J59 f12_doesFit_J81 f12_most ftB
    rw [H.2.2.2.1, if_neg (nI_nlt (by omega) (by omega)), e12_onesOf hs, q_bnd, q_bnd, H.2.2.2.2.2.1]
    by_cases q : mo < pc s
    · rw [if_pos (nI_lt q (by omega)), decide_eq_true q]; rfl
    · rw [if_neg (nI_nlt (by omega) (by omega)), decide_eq_false q]
      by_cases q2 : e < cN (erB ta h s) k
      · rw [if_pos (nI_lt q2 (by omega)), decide_eq_true q2]; rfl
      · rw [if_neg (nI_nlt (by omega) (by omega)), decide_eq_false q2]; rfl
  | r + 1, k, f, h1, h2 => by
    obtain ⟨f, rfl⟩ : ∃ m, f = m + 1 := ⟨f - 1, by omega⟩
    have hn := H.1
    have ih := e12_fitL H hs he r (k + 1) f (by omega) (by omega) (h := h)
    obtain ⟨⟨m0, m1, m2⟩, t1, t2⟩ := H.2.2.2.2.2.2.2 k (by omega)
    unfold f12_doesFit_L6
    rw [H.2.2.2.1, if_pos (nI_lt (by omega) (by omega)), k_cin _ (by omega) (by omega), k_cin _ (by omega) (by omega), k_cin _ (by omega) (by omega), q_ix (by omega), m0, m1, m2, t2, k_bit s hs _ t1, nI_1, nI_1]
    rw [cN_s (k := k)] at ih
    have hB : erB ta h s k = (decide (ta (3 * k) = nI h) && decide ((if s.testBit (z_ix (ta (3 * k + 1))) = true then (1 : Int32) else 0) = ta (3 * k + 2))) := rfl
    by_cases c1 : ta (3 * k) = nI h
    · rw [if_pos c1]
      by_cases c2 : (if s.testBit (z_ix (ta (3 * k + 1))) = true then (1 : Int32) else 0) = ta (3 * k + 2)
      · rw [hB, decide_eq_true c1, decide_eq_true c2] at ih
        rw [if_pos c2]; exact ih
      · rw [hB, decide_eq_true c1, decide_eq_false c2] at ih
        rw [if_neg c2]; exact ih
    · rw [hB, decide_eq_false c1, Bool.false_and] at ih
      rw [if_neg c1]; exact ih
theorem e12_fit {n mo h e s : Nat} {ta : Nat → Int32} {σ τ : z_M} (H : TS n mo ta σ τ) (hs : s < 256) (he : e ≤ 3) : f12_doesFit (nI h) (nI s) (nI e) τ = some (if ftB ta n mo h e s = true then 1 else 0, τ) := e12_fitL H hs he n 0 z_fu (by omega) (show n < 1000 by have := H.1; omega)
theorem e6_count {n mo h e : Nat} {ta : Nat → Int32} {σ τ : z_M} (H : TS n mo ta σ τ) (he : e ≤ 3) : ∀ (r k f : Nat), k + r = 256 → r < f → f6_countFits_L6 f 1 (nI h) (nI e) (nI (cN (ftB ta n mo h e) k)) (nI k) σ = some (nI (cN (ftB ta n mo h e) 256), σ)
  | 0, k, f, h1, h2 => by
    obtain ⟨f, rfl⟩ : ∃ m, f = m + 1 := ⟨f - 1, by omega⟩
    obtain rfl : k = 256 := by omega
    unfold f6_countFits_L6
    rw [l_256, if_neg (nI_nlt (by omega) (by omega))]
  | r + 1, k, f, h1, h2 => by
    obtain ⟨f, rfl⟩ : ∃ m, f = m + 1 := ⟨f - 1, by omega⟩
    have ih := e6_count H he r (k + 1) f (by omega) (by omega) (h := h)
    unfold f6_countFits_L6
    rw [l_256, if_pos (nI_lt (by omega) (by omega)), e6_fit H (by omega) he, q_bnd, nI_1, nI_1]
    rw [cN_s (k := k)] at ih
    by_cases c : ftB ta n mo h e k = true
    · rw [if_pos c] at ih; rw [if_pos c, i_10]; exact ih
    · rw [if_neg c] at ih; rw [if_neg c, i_00]; exact ih
theorem e12_count {n mo h e : Nat} {ta : Nat → Int32} {σ τ : z_M} (H : TS n mo ta σ τ) (he : e ≤ 3) : ∀ (r k f : Nat), k + r = 256 → r < f → f12_fitsWith_L6 f (nI h) (nI e) (-1) (nI (cN (ftB ta n mo h e) k)) (nI k) τ = some (nI (cN (ftB ta n mo h e) 256), τ)
  | 0, k, f, h1, h2 => by
    obtain ⟨f, rfl⟩ : ∃ m, f = m + 1 := ⟨f - 1, by omega⟩
    obtain rfl : k = 256 := by omega
    unfold f12_fitsWith_L6
    rw [l_256, if_neg (nI_nlt (by omega) (by omega))]
  | r + 1, k, f, h1, h2 => by
    obtain ⟨f, rfl⟩ : ∃ m, f = m + 1 := ⟨f - 1, by omega⟩
    have ih := e12_count H he r (k + 1) f (by omega) (by omega) (h := h)
    unfold f12_fitsWith_L6 f12_fitsWith_J29
    rw [l_256, if_pos (nI_lt (by omega) (by omega)), if_pos rfl, e12_fit H (by omega) he, q_bnd, nI_1, nI_1]
    rw [cN_s (k := k)] at ih
    by_cases c : ftB ta n mo h e k = true
    · rw [if_pos c] at ih; rw [if_pos c, i_10]; exact ih
    · rw [if_neg c] at ih; rw [if_neg c, i_00]; exact ih
theorem e12_with {n mo h e t : Nat} {ta : Nat → Int32} {σ τ : z_M} (H : TS n mo ta σ τ) (he : e ≤ 3) (ht : t < 8) : ∀ (r k f : Nat), k + r = 256 → r < f → f12_fitsWith_L6 f (nI h) (nI e) (nI t) (nI (cN (fun s => s.testBit t && ftB ta n mo h e s) k)) (nI k) τ = some (nI (cN (fun s => s.testBit t && ftB ta n mo h e s) 256), τ)
  | 0, k, f, h1, h2 => by
    obtain ⟨f, rfl⟩ : ∃ m, f = m + 1 := ⟨f - 1, by omega⟩
    obtain rfl : k = 256 := by omega
    unfold f12_fitsWith_L6
    rw [l_256, if_neg (nI_nlt (by omega) (by omega))]
  | r + 1, k, f, h1, h2 => by
    obtain ⟨f, rfl⟩ : ∃ m, f = m + 1 := ⟨f - 1, by omega⟩
    have ih := e12_with H he ht r (k + 1) f (by omega) (by omega) (h := h)
    unfold f12_fitsWith_L6 f12_fitsWith_J29
    rw [l_256, if_pos (nI_lt (by omega) (by omega)), if_neg (q_neg (by omega)), k_bit k (by omega) t ht, e12_fit H (by omega) he, q_bnd, nI_1, nI_1]
    rw [cN_s (k := k)] at ih
    by_cases b : k.testBit t = true
    · rw [if_pos b, if_pos rfl]
      by_cases c : ftB ta n mo h e k = true
      · rw [if_pos (by rw [b, c]; rfl)] at ih; rw [if_pos c, i_10]; exact ih
      · rw [if_neg (by rw [b]; simpa using c)] at ih; rw [if_neg c, i_00]; exact ih
    · rw [if_neg (by intro q; apply b; revert q; cases k.testBit t <;> simp)] at ih
      rw [if_neg b, if_neg (by decide)]; exact ih
theorem G_TS {H : Nat} {σ τ : z_M} (g1 : G_sc H (σ 1 0) (σ 1 1) (σ 1 2) (σ 1 3) (τ 0 6) (τ 0 7) (τ 0 8) (τ 0 9)) (g8 : G_ta (σ 1 11) (τ 0 52) (σ 16) (τ 29) (τ 30) (τ 31)) : ∃ n mo, TS n mo (σ 16) σ τ := by
  obtain ⟨n, hn, e1, e2, hl⟩ := g8
  obtain ⟨-, -, -, ⟨mo, hm, em⟩, em2, -⟩ := g1
  refine ⟨n, mo, hn, hm, e1, e2, em, by rw [em2, q_sub_add]; exact em, rfl, fun i hi => ?_⟩
  obtain ⟨a, ⟨k, hk, ek⟩, -⟩ := hl i hi
  refine ⟨a, ?_, ?_⟩
  · rw [ek, q_ix (by omega)]; exact hk
  · rw [ek, q_ix (by omega)]
theorem p_fits0 : p_fits Rel0 := by
  intro p1 p2 σ τ hR
  replace hR := Rel0_told hR
  unfold f12_fits f11_fits f12_fits_J33
  rw [q_let]
  generalize z_set τ 0 0 0 = τ at hR ⊢
  have hR0 := hR
  obtain ⟨⟨H, hN, hU⟩, hI, hT, hF, hC⟩ := hR
  obtain ⟨g1, g2, g3, g4, g5, g6, g7, g8, g9, g10⟩ := hN
  have hH := g1.1
  rcases g_house hH (σ := σ) (τ := τ) g1.2.1 g1.2.2.1 p1 with ⟨c1, c2⟩ | ⟨h, hh, rfl, c1, c2⟩
  · rw [c1, c2]; exact ⟨-1, σ, τ, rfl, rfl, hR0⟩
  rw [c1, c2, q_bnd, q_bnd, i_10, i_10]
  rcases g_in p2 0 3 0 3 rfl rfl (by omega) (by omega) τ with ⟨n1 | ⟨n1, n2⟩, e⟩ | ⟨y, -, hy, rfl, n1, n2, e⟩
  · rw [if_pos n1, e]; exact ⟨-1, σ, τ, rfl, rfl, hR0⟩
  · rw [if_neg n1, if_pos n2, e]; exact ⟨-1, σ, τ, rfl, rfl, hR0⟩
  rw [if_neg n1, if_neg n2, e, q_bnd, i_10]
  obtain ⟨n, mo, ts⟩ := G_TS g1 g8
  have k1 : f6_countFits 1 (nI h) (nI y) σ = _ := e6_count (h := h) ts hy 256 0 z_fu (by omega) (by decide)
  have k2 : f12_fitsWith (nI h) (nI y) (-1) τ = _ := e12_count (h := h) ts hy 256 0 z_fu (by omega) (by decide)
  rw [k1, k2]
  exact ⟨_, σ, τ, rfl, rfl, hR0⟩
/-- ask: the counts of the sets with each thing -/
theorem e6_askL56 {h e : Int32} {v : Int32} {s : Nat} (σ : z_M) (hs : s < 256) (kc : Nat → Int32 → Int32 → Int32 → Int32 → z_M → Option (Int32 × z_M)) : ∀ (r k f : Nat) (g : Nat → Nat), k + r = 8 → r < f → f6_bestQuestion_L56 kc f 1 h e v (nI s) (nI k) (z_fl σ 112 0 8 (fun t => nI (g t))) = kc 1 h e v (nI (s + 1)) (z_fl σ 112 0 8 (fun t => nI (if k ≤ t then g t + (if s.testBit t = true then 1 else 0) else g t)))
  | 0, k, f, g, h1, h2 => by
    obtain ⟨f, rfl⟩ : ∃ m, f = m + 1 := ⟨f - 1, by omega⟩
    obtain rfl : k = 8 := by omega
    unfold f6_bestQuestion_L56 f6_bestQuestion_J86
    rw [l_8, if_neg (nI_nlt (by omega) (by omega)), nI_1]
    congr 1
    apply fl_cong
    intro t ht
    rw [if_neg (by omega)]
  | r + 1, k, f, g, h1, h2 => by
    obtain ⟨f, rfl⟩ : ∃ m, f = m + 1 := ⟨f - 1, by omega⟩
    unfold f6_bestQuestion_L56
    rw [l_8, if_pos (nI_lt (by omega) (by omega)), k_cin _ (by omega) (by omega), k_cin _ (by omega) (by omega), q_ix (by omega), q_let, k_bit s hs k (by omega), fl_in (by omega) (by omega), fl_u (by omega) (by omega), nI_1, Nat.sub_zero]
    have e1 : nI (g k) + (if s.testBit k = true then (1 : Int32) else 0) = nI (g k + if s.testBit k = true then 1 else 0) := by
      split
      · exact nI_1 _
      · exact nI_add (g k) 0
    have e2 : upd (fun t => nI (g t)) k (nI (g k) + (if s.testBit k = true then (1 : Int32) else 0)) = fun t => nI (if t = k then g k + (if s.testBit k = true then 1 else 0) else g t) := by
      funext t
      rw [q_upd, e1]
      split <;> rfl
    rw [e2, e6_askL56 σ hs kc r (k + 1) f _ (by omega) (by omega)]
    congr 1
    apply fl_cong
    intro t ht
    congr 1
    by_cases c : t = k
    · subst c
      rw [if_neg (by omega), if_pos rfl, if_pos (Nat.le_refl t)]
    · by_cases c2 : k + 1 ≤ t
      · rw [if_pos c2, if_neg c, if_pos (show k ≤ t by omega)]
      · rw [if_neg c2, if_neg c, if_neg (show ¬ k ≤ t by omega)]
theorem e6_askL30 {n mo h e : Nat} {ta : Nat → Int32} {σ τ : z_M} (H : TS n mo ta σ τ) (he : e ≤ 3) : ∀ (r k f : Nat), k + r = 256 → r < f → f6_bestQuestion_L30 f 1 (nI h) (nI e) (nI (cN (ftB ta n mo h e) k)) (nI k) (z_fl σ 112 0 8 (fun t => nI (cN (fun s => s.testBit t && ftB ta n mo h e s) k))) = f6_bestQuestion_J92 (nI (cN (ftB ta n mo h e) 256)) (z_fl σ 112 0 8 (fun t => nI (cN (fun s => s.testBit t && ftB ta n mo h e s) 256)))
  | 0, k, f, h1, h2 => by
    obtain ⟨f, rfl⟩ : ∃ m, f = m + 1 := ⟨f - 1, by omega⟩
    obtain rfl : k = 256 := by omega
    unfold f6_bestQuestion_L30
    rw [l_256, if_neg (nI_nlt (by omega) (by omega))]
  | r + 1, k, f, h1, h2 => by
    obtain ⟨f, rfl⟩ : ∃ m, f = m + 1 := ⟨f - 1, by omega⟩
    have ih := e6_askL30 H he r (k + 1) f (by omega) (by omega) (h := h)
    have H' : TS n mo ta (z_fl σ 112 0 8 (fun t => nI (cN (fun s => s.testBit t && ftB ta n mo h e s) k))) τ := TS_cong H (fl_ne (by omega)) (fl_ne (by omega))
    unfold f6_bestQuestion_L30 f6_bestQuestion_J86
    rw [l_256, if_pos (nI_lt (by omega) (by omega)), e6_fit H' (by omega) he, q_bnd, nI_1, nI_1]
    by_cases c : ftB ta n mo h e k = true
    · rw [if_pos c, i_10]
      have a : ∀ K v, f6_bestQuestion_L56 K z_fu 1 (nI h) (nI e) v (nI k) 0 (z_fl σ 112 0 8 (fun t => nI (cN (fun s => s.testBit t && ftB ta n mo h e s) k))) = _ := fun K v => e6_askL56 σ (by omega) K 8 0 z_fu (fun t => cN (fun s => s.testBit t && ftB ta n mo h e s) k) (by omega) (by decide)
      rw [a, ← ih, show cN (ftB ta n mo h e) (k + 1) = cN (ftB ta n mo h e) k + 1 by rw [cN_s, if_pos c]]
      congr 1
      apply fl_cong
      intro t ht
      rw [if_pos (Nat.zero_le t), cN_s, c, Bool.and_true]
    · rw [if_neg c, i_00, ← ih, show cN (ftB ta n mo h e) (k + 1) = cN (ftB ta n mo h e) k by rw [cN_s, if_neg c]; rfl]
      congr 1
      apply fl_cong
      intro t ht
      have c' : ftB ta n mo h e k = false := by simpa using c
      rw [cN_s, c', Bool.and_false, if_neg (by decide), Nat.add_zero]
theorem e6_askL6 (σ : z_M) (h e : Int32) : ∀ (r k f : Nat), k + r = 8 → r < f → f6_bestQuestion_L6 f 1 h e 0 (nI k) (z_fl σ 112 0 k (fun _ => 0)) = f6_bestQuestion_J27 1 h e 0 (z_fl σ 112 0 8 (fun _ => 0))
  | 0, k, f, h1, h2 => by
    obtain ⟨f, rfl⟩ : ∃ m, f = m + 1 := ⟨f - 1, by omega⟩
    obtain rfl : k = 8 := by omega
    unfold f6_bestQuestion_L6
    rw [l_8, if_neg (nI_nlt (by omega) (by omega))]
  | r + 1, k, f, h1, h2 => by
    obtain ⟨f, rfl⟩ : ∃ m, f = m + 1 := ⟨f - 1, by omega⟩
    unfold f6_bestQuestion_L6
    rw [l_8, if_pos (nI_lt (by omega) (by omega)), k_cin _ (by omega) (by omega), q_ix (by omega), q_let, fl_s (by omega) rfl, nI_1]
    exact e6_askL6 σ h e r (k + 1) f (by omega) (by omega)
theorem e_ask {n mo h e F : Nat} {ta : Nat → Int32} {σ τ : z_M} (H : TS n mo ta σ τ) (he : e ≤ 3) (w : Nat → Nat) (hw : ∀ t, t < 8 → w t ≤ F ∧ σ 112 t = nI (w t) ∧ f12_fitsWith (nI h) (nI e) (nI t) τ = some (nI (w t), τ)) (hF : 1 < F) (hF2 : F ≤ 256) : ∀ (r k f g lc lr : Nat) (b : Int32), k + r = 8 → r < f → r < g → (k = 0 ∧ lc = F + 1 ∧ lr = 100000) ∨ (lc = lr ∧ lc ≤ F) → ∃ x, f6_bestQuestion_L104 f (nI F) b (nI lc) (nI k) σ = some (x, σ) ∧ f12_ask_L51 g (nI h) (nI e) (nI F) b (nI lr) (nI k) τ = some (x, τ)
  | 0, k, f, g, lc, lr, b, h1, h2, h3, hi => by
    obtain ⟨f, rfl⟩ : ∃ m, f = m + 1 := ⟨f - 1, by omega⟩
    obtain ⟨g, rfl⟩ : ∃ m, g = m + 1 := ⟨g - 1, by omega⟩
    unfold f6_bestQuestion_L104 f12_ask_L51
    rw [l_8, if_neg (nI_nlt (by omega) (by omega)), if_neg (nI_nlt (by omega) (by omega))]
    exact ⟨_, rfl, rfl⟩
  | r + 1, k, f, g, lc, lr, b, h1, h2, h3, hi => by
    obtain ⟨f, rfl⟩ : ∃ m, f = m + 1 := ⟨f - 1, by omega⟩
    obtain ⟨g, rfl⟩ : ∃ m, g = m + 1 := ⟨g - 1, by omega⟩
    obtain ⟨w1, w2, w3⟩ := hw k (by omega)
    unfold f6_bestQuestion_L104 f12_ask_L51 f12_ask_J94
    have hone : (1 : Int32) < nI F := nI_lt (a := 1) hF (by omega)
    rw [l_8, if_pos (nI_lt (by omega) (by omega)), if_pos (nI_lt (by omega) (by omega)), if_pos hone, k_cin _ (by omega) (by omega), k_cin _ (by omega) (by omega), q_ix (by omega), w2, pk_sub w1, s_max (by omega) (by omega), q_let, w3, q_bnd, pk_sub w1, e12_greater, q_bnd, nI_1]
    have hg : (if nI (F - w k) < nI (w k) then nI (w k) else nI (F - w k)) = nI (max (w k) (F - w k)) := by
      by_cases q : F - w k < w k
      · rw [if_pos (nI_lt q (by omega)), Nat.max_eq_left (by omega)]
      · rw [if_neg (nI_nlt (by omega) (by omega)), Nat.max_eq_right (by omega)]
    rw [hg]
    have hm : max (w k) (F - w k) ≤ F := by omega
    have ih := fun lc lr b => e_ask H he w hw hF hF2 r (k + 1) f g lc lr b (by omega) (by omega) (by omega)
    by_cases c : max (w k) (F - w k) < lr
    · have c1 : nI (max (w k) (F - w k)) < nI lr := nI_lt c (by omega)
      have c2 : nI (max (w k) (F - w k)) < nI lc := nI_lt (by omega) (by omega)
      rw [if_pos c2, if_pos c1, if_pos c1]
      exact ih _ _ _ (.inr ⟨rfl, hm⟩)
    · have c1 : ¬ nI (max (w k) (F - w k)) < nI lr := nI_nlt (by omega) (by omega)
      have c2 : ¬ nI (max (w k) (F - w k)) < nI lc := nI_nlt (by omega) (by omega)
      rw [if_neg c2, if_neg c1, if_neg c1]
      exact ih _ _ _ (by omega)
theorem p_ask0 : p_ask Rel0 := by
  intro p1 p2 σ τ hR
  replace hR := Rel0_told hR
  unfold f12_ask f11_ask
  rw [q_let]
  generalize z_set τ 0 0 0 = τ at hR ⊢
  have hR0 := hR
  obtain ⟨⟨H, hN, hU⟩, hI, hT, hF, hC⟩ := hR
  obtain ⟨g1, g2, g3, g4, g5, g6, g7, g8, g9, g10⟩ := hN
  have hH := g1.1
  rcases g_house hH (σ := σ) (τ := τ) g1.2.1 g1.2.2.1 p1 with ⟨c1, c2⟩ | ⟨h, hh, rfl, c1, c2⟩
  · rw [c1, c2]; exact ⟨-1, σ, τ, rfl, rfl, hR0⟩
  rw [c1, c2, q_bnd, q_bnd, i_10, i_10]
  rcases g_in p2 0 3 0 3 rfl rfl (by omega) (by omega) τ with ⟨n1 | ⟨n1, n2⟩, e⟩ | ⟨y, -, hy, rfl, n1, n2, e⟩
  · rw [if_pos n1, e]; exact ⟨-1, σ, τ, rfl, rfl, hR0⟩
  · rw [if_neg n1, if_pos n2, e]; exact ⟨-1, σ, τ, rfl, rfl, hR0⟩
  rw [if_neg n1, if_neg n2, e, q_bnd, i_10]
  obtain ⟨n, mo, ts⟩ := G_TS g1 g8
  let ta := σ 16
  let σ1 := z_fl σ 112 0 8 (fun t => nI (cN (fun s => s.testBit t && ftB ta n mo h y s) 256))
  let F := cN (ftB ta n mo h y) 256
  have hF2 : F ≤ 256 := cN_le _ _
  have hc : f6_bestQuestion 1 (nI h) (nI y) σ = f6_bestQuestion_J92 (nI F) σ1 := by
    unfold f6_bestQuestion
    have a := e6_askL6 σ (nI h) (nI y) 8 0 z_fu (by omega) (by decide)
    rw [fl_0] at a
    have a : f6_bestQuestion_L6 z_fu 1 (nI h) (nI y) 0 0 σ = _ := a
    rw [a]
    exact e6_askL30 (h := h) ts hy 256 0 z_fu (by omega) (by decide)
  have k2 : f12_fitsWith (nI h) (nI y) (-1) τ = some (nI F, τ) := e12_count (h := h) ts hy 256 0 z_fu (by omega) (by decide)
  have s1 : ∀ c, c ≠ 112 → σ1 c = σ c := fun c hc => fl_ne hc
  have hrel : Rel0 σ1 τ := Rel0_frame2 hR0 (fun c hc => s1 c (by omega)) (by rw [s1 50 (by omega)]) (by rw [s1 51 (by omega)]) (fun _ _ => rfl) (fun _ _ => rfl)
  rw [hc, k2, q_bnd]
  unfold f6_bestQuestion_J92
  rw [nI_1]
  by_cases h1 : F < 2
  · have b1 : nI F < 2 := nI_lt (b := 2) h1 (by omega)
    rw [if_pos b1]
    refine ⟨-1, σ1, τ, ?_, rfl, hrel⟩
    have : f6_bestQuestion_L104 z_fu (nI F) (-1) (nI (F + 1)) 0 σ1 = some (-1, σ1) := by
      show f6_bestQuestion_L104 (999 + 1) _ _ _ _ _ = _
      unfold f6_bestQuestion_L104
      have b2 : ¬ (1 : Int32) < nI F := nI_nlt (b := F) (a := 1) (by omega) (by omega)
      rw [if_pos (by decide), if_neg b2]
    rw [this]; rfl
  · have b1 : ¬ nI F < 2 := nI_nlt (b := 2) (by omega) (by omega)
    rw [if_neg b1]
    have hw : ∀ t, t < 8 → cN (fun s => s.testBit t && ftB ta n mo h y s) 256 ≤ F ∧ σ1 112 t = nI (cN (fun s => s.testBit t && ftB ta n mo h y s) 256) ∧ f12_fitsWith (nI h) (nI y) (nI t) τ = some (nI (cN (fun s => s.testBit t && ftB ta n mo h y s) 256), τ) := by
      intro t ht
      refine ⟨?_, ?_, ?_⟩
      · show cN (fun s => s.testBit t && ftB ta n mo h y s) 256 ≤ cN (ftB ta n mo h y) 256
        rw [cN_ws, cN_ws]
        apply ws_mono
        intro i _ q
        revert q
        cases i.testBit t <;> simp
      · show z_fl σ 112 0 8 _ 112 t = _
        rw [fl_in (by omega) (by omega), Nat.sub_zero]
      · exact e12_with (h := h) ts hy ht 256 0 z_fu (by omega) (by decide)
    obtain ⟨x, x1, x2⟩ := e_ask (h := h) (F := F) (TS_cong ts (s1 1 (by omega)) (s1 16 (by omega))) hy (fun t => cN (fun s => s.testBit t && ftB ta n mo h y s) 256) hw (by omega) hF2 8 0 z_fu z_fu (F + 1) 100000 (-1) (by omega) (by decide) (by decide) (.inl ⟨rfl, rfl, rfl⟩)
    have x1 : f6_bestQuestion_L104 z_fu (nI F) (-1) (nI (F + 1)) 0 σ1 = some (x, σ1) := x1
    have x2 : f12_ask_L51 z_fu (nI h) (nI y) (nI F) (-1) 100000 0 τ = some (x, τ) := x2
    rw [x1, x2]
    exact ⟨x, σ1, τ, rfl, rfl, hrel⟩
