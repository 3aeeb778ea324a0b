/-! down, fits, ask -/
/-- what is given by the first k reasons -/
def gvN (R0 R2 : Nat → Nat) : Nat → Nat
  | 0 => 0
  | k + 1 => if 0 < R2 k then gvN R0 R2 k ||| 2 ^ R0 k else gvN R0 R2 k
/-- what follows from s by the first k reasons -/
def flN (R0 R1 R2 : Nat → Nat) (s : Nat) : Nat → Nat
  | 0 => 0
  | k + 1 => if 0 < R2 k ∧ dN (R1 k) s = 0 then flN R0 R1 R2 s k ||| 2 ^ R0 k else flN R0 R1 R2 s k
theorem gvN_s {R0 R2 : Nat → Nat} {k : Nat} : gvN R0 R2 (k + 1) = if 0 < R2 k then gvN R0 R2 k ||| 2 ^ R0 k else gvN R0 R2 k := rfl
theorem flN_s {R0 R1 R2 : Nat → Nat} {s k : Nat} : flN R0 R1 R2 s (k + 1) = if 0 < R2 k ∧ dN (R1 k) s = 0 then flN R0 R1 R2 s k ||| 2 ^ R0 k else flN R0 R1 R2 s k := rfl
theorem bN_s {p : Nat → Bool} {k : Nat} : bN p (k + 1) = if p k = true then bN p k ||| 2 ^ k else bN p k := rfl
theorem k_gt {a : Nat} (h : 0 < a) (h2 : a < 2 ^ 31) : (0 : Int32) < nI a := nI_lt (a := 0) h h2
theorem k_ngt {a : Nat} (h : ¬ 0 < a) : ¬ (0 : Int32) < nI a := nI_nlt (a := 0) (by omega) (by omega)
theorem p8_lt {t : Nat} (h : t < 8) : (2 : Nat) ^ t < 256 := Nat.pow_lt_pow_right (a := 2) (by omega) (show t < 8 from h)
theorem gvN_lt {R0 R2 : Nat → Nat} : ∀ {k : Nat}, (∀ i, i < k → R0 i < 8) → gvN R0 R2 k < 256
  | 0, _ => by unfold gvN; omega
  | k + 1, h => by
    have h1 := gvN_lt (R0 := R0) (R2 := R2) (k := k) (fun i hi => h i (by omega))
    unfold gvN
    split
    · exact Nat.or_lt_two_pow (n := 8) h1 (p8_lt (h k (by omega)))
    · exact h1
theorem flN_lt {R0 R1 R2 : Nat → Nat} {s : Nat} : ∀ {k : Nat}, (∀ i, i < k → R0 i < 8) → flN R0 R1 R2 s k < 256
  | 0, _ => by unfold flN; omega
  | k + 1, h => by
    have h1 := flN_lt (R0 := R0) (R1 := R1) (R2 := R2) (s := s) (k := k) (fun i hi => h i (by omega))
    unfold flN
    split
    · exact Nat.or_lt_two_pow (n := 8) h1 (p8_lt (h k (by omega)))
    · exact h1
theorem flN_mono {R0 R1 R2 : Nat → Nat} {s t k : Nat} (h : (flN R0 R1 R2 s k).testBit t = true) : ∀ {n : Nat}, k ≤ n → (flN R0 R1 R2 s n).testBit t = true
  | 0, hk => by obtain rfl : k = 0 := by omega
                exact h
  | n + 1, hk => by
    by_cases e : k = n + 1
    · subst e; exact h
    · have h1 := flN_mono h (n := n) (by omega)
      unfold flN
      split
      · rw [Nat.testBit_or, h1]; rfl
      · exact h1
theorem flN_0 {R0 R1 R2 : Nat → Nat} : ∀ {k : Nat}, (∀ i, i < k → 0 < R1 i ∧ R1 i < 256) → flN R0 R1 R2 0 k = 0
  | 0, _ => rfl
  | k + 1, h => by
    have h1 := flN_0 (R0 := R0) (R1 := R1) (R2 := R2) (k := k) (fun i hi => h i (by omega))
    unfold flN
    rw [if_neg, h1]
    rintro ⟨-, q⟩
    have h2 := h k (by omega)
    have : R1 k = 0 := by
      apply e_ext h2.2 (by omega)
      intro i _
      rw [Nat.zero_testBit]
      cases e : (R1 k).testBit i
      · rfl
      · have := dN_0 h2.2 q i e
        rw [Nat.zero_testBit] at this
        exact absurd this (by decide)
    omega
theorem e6_follL {n s : Nat} {R0 R1 R2 : Nat → Nat} {σ τ : z_M} (h : RS n R0 R1 R2 σ τ) : ∀ (r k f : Nat), k + r = n → r < f → f6_follows_L5 f 4 (nI s) (nI (flN R0 R1 R2 s k)) (nI k) σ = some (nI (flN R0 R1 R2 s n), σ)
  | 0, k, f, h1, h2 => by
    obtain ⟨f, rfl⟩ : ∃ m, f = m + 1 := ⟨f - 1, by omega⟩
    obtain rfl : k = n := by omega
    have hn := h.1
    unfold f6_follows_L5
    rw [h.2.1, if_neg (nI_nlt (by omega) (by omega))]
  | r + 1, k, f, h1, h2 => by
    obtain ⟨f, rfl⟩ : ∃ m, f = m + 1 := ⟨f - 1, by omega⟩
    have hn := h.1
    have ih := e6_follL (s := s) h r (k + 1) f (by omega) (by omega)
    obtain ⟨r0, -, r1, r2, -⟩ := h.2.2.2 k (by omega)
    unfold f6_follows_L5
    rw [h.2.1, if_pos (nI_lt (by omega) (by omega)), RS_a2 h (by omega), q_bnd, RS_a1 h (by omega), q_bnd, RS_a0 h (by omega), q_bnd, k_dN r1, nI_1, k_shl _ (by omega), k_or]
    rw [flN_s (k := k)] at ih
    by_cases c1 : 0 < R2 k
    · rw [if_pos (k_gt c1 (by omega))]
      by_cases c2 : dN (R1 k) s = 0
      · rw [if_pos ⟨c1, c2⟩] at ih; rw [if_pos (k_z c2)]; exact ih
      · rw [if_neg (fun q => c2 q.2)] at ih; rw [if_neg (k_nz c2 (Nat.lt_trans (dN_lt r1 s) (by omega)))]; exact ih
    · rw [if_neg (fun q => c1 q.1)] at ih
      rw [if_neg (k_ngt c1)]; exact ih
theorem e6_foll {n s : Nat} {R0 R1 R2 : Nat → Nat} {σ τ : z_M} (h : RS n R0 R1 R2 σ τ) : f6_follows 4 (nI s) σ = some (nI (flN R0 R1 R2 s n), σ) := e6_follL h n 0 z_fu (by omega) (show n < 1000 by have := h.1; omega)
theorem e6_fallL22 {n : Nat} {R0 R1 R2 : Nat → Nat} {σ τ : z_M} (h : RS n R0 R1 R2 σ τ) (v : Int32) : ∀ (r k f : Nat), k + r = n → r < f → f6_falls_L22 f 1 v (nI (gvN R0 R2 k)) (nI k) σ = f6_falls_J70 1 v (nI (gvN R0 R2 n)) σ
  | 0, k, f, h1, h2 => by
    obtain ⟨f, rfl⟩ : ∃ m, f = m + 1 := ⟨f - 1, by omega⟩
    obtain rfl : k = n := by omega
    have hn := h.1
    have e4 : σ (1 + 3) 2 = nI k := h.2.1
    unfold f6_falls_L22
    rw [e4, if_neg (nI_nlt (by omega) (by omega))]
  | r + 1, k, f, h1, h2 => by
    obtain ⟨f, rfl⟩ : ∃ m, f = m + 1 := ⟨f - 1, by omega⟩
    have hn := h.1
    have ih := e6_fallL22 h v r (k + 1) f (by omega) (by omega)
    obtain ⟨r0, -, r1, r2, -⟩ := h.2.2.2 k (by omega)
    have e4 : σ (1 + 3) 2 = nI n := h.2.1
    have a2 : f9_at (1 + 3) (nI k) 2 σ = _ := RS_a2 h (i := k) (by omega)
    have a0 : f9_at (1 + 3) (nI k) 0 σ = _ := RS_a0 h (i := k) (by omega)
    unfold f6_falls_L22
    rw [e4, if_pos (nI_lt (by omega) (by omega)), a2, q_bnd, a0, q_bnd, nI_1, k_shl _ (by omega), k_or]
    rw [gvN_s (k := k)] at ih
    by_cases c1 : 0 < R2 k
    · rw [if_pos c1] at ih; rw [if_pos (k_gt c1 (by omega))]; exact ih
    · rw [if_neg c1] at ih; rw [if_neg (k_ngt c1)]; exact ih
/-- what stands after so many rounds, of rest -/
def stN (R0 R1 R2 : Nat → Nat) (n rest : Nat) : Nat → Nat
  | 0 => 0
  | 1 => dN rest (gvN R0 R2 n)
  | j + 2 => stN R0 R1 R2 n rest (j + 1) ||| (rest &&& flN R0 R1 R2 (stN R0 R1 R2 n rest (j + 1)) n)
theorem stN_lt {R0 R1 R2 : Nat → Nat} {n rest : Nat} (hr : rest < 256) : ∀ j, stN R0 R1 R2 n rest j < 256
  | 0 => by unfold stN; omega
  | 1 => by unfold stN; exact dN_lt hr _
  | j + 2 => by
    unfold stN
    exact Nat.or_lt_two_pow (n := 8) (stN_lt hr (j + 1)) (Nat.lt_of_le_of_lt Nat.and_le_left hr)
theorem e6_fallL82 {n rest : Nat} {R0 R1 R2 : Nat → Nat} {σ τ : z_M} (h : RS n R0 R1 R2 σ τ) (hr : rest < 256) : ∀ (r k f : Nat), k + r = 8 → r < f → f6_falls_L82 f 1 (nI rest) (nI (stN R0 R1 R2 n rest (k + 1))) (nI k) σ = some (nI (dN rest (stN R0 R1 R2 n rest 9)), σ)
  | 0, k, f, h1, h2 => by
    obtain ⟨f, rfl⟩ : ∃ m, f = m + 1 := ⟨f - 1, by omega⟩
    obtain rfl : k = 8 := by omega
    unfold f6_falls_L82 f6_falls_J113
    rw [l_8, if_neg (nI_nlt (by omega) (by omega)), k_dN hr]
  | r + 1, k, f, h1, h2 => by
    obtain ⟨f, rfl⟩ : ∃ m, f = m + 1 := ⟨f - 1, by omega⟩
    have ih := e6_fallL82 h hr r (k + 1) f (by omega) (by omega)
    have a : f6_follows (1 + 3) (nI (stN R0 R1 R2 n rest (k + 1))) σ = _ := e6_foll h
    unfold f6_falls_L82
    rw [l_8, if_pos (nI_lt (by omega) (by omega)), a, q_bnd, k_and, k_or, nI_1]
    exact ih
theorem e12_standL {n s t : Nat} {R0 R1 R2 : Nat → Nat} {σ τ : z_M} (h : RS n R0 R1 R2 σ τ) (ht : t < 8) : ∀ (r k f : Nat) (v : Int32), k + r = n → r < f → (v = if (gvN R0 R2 k).testBit t = true then 1 else 0) → (flN R0 R1 R2 s k).testBit t = false → f12_doesStand_L5 f (nI t) (nI s) v (nI k) τ = some (if (!(gvN R0 R2 n).testBit t || (flN R0 R1 R2 s n).testBit t) = true then 1 else 0, τ)
  | 0, k, f, v, h1, h2, hv, hf => by
    obtain ⟨f, rfl⟩ : ∃ m, f = m + 1 := ⟨f - 1, by omega⟩
    obtain rfl : k = n := by omega
    have hn := h.1
    unfold f12_doesStand_L5 f12_doesStand_J62
    rw [h.2.2.1, if_neg (nI_nlt (by omega) (by omega)), hf, hv]
    cases (gvN R0 R2 k).testBit t <;> rfl
  | r + 1, k, f, v, h1, h2, hv, hf => by
    obtain ⟨f, rfl⟩ : ∃ m, f = m + 1 := ⟨f - 1, by omega⟩
    have hn := h.1
    have ih := fun v => e12_standL (s := s) h ht r (k + 1) f v (by omega) (by omega)
    obtain ⟨r0, -, r1, r2, -⟩ := h.2.2.2 k (by omega)
    unfold f12_doesStand_L5
    rw [h.2.2.1, if_pos (nI_lt (by omega) (by omega)), RS_m2 h (by omega), q_bnd, RS_m0 h (by omega), q_bnd, RS_m1 h (by omega), q_bnd, k_dN r1, nI_1]
    by_cases c1 : R2 k = 0
    · rw [if_pos (k_z c1)]
      apply ih
      · rw [show gvN R0 R2 (k + 1) = gvN R0 R2 k by rw [gvN_s, if_neg (by omega)]]; exact hv
      · unfold flN; rw [if_neg (by omega)]; exact hf
    · rw [if_neg (k_nz c1 (by omega))]
      by_cases c2 : R0 k = t
      · rw [if_pos (by rw [c2])]
        by_cases c3 : dN (R1 k) s = 0
        · rw [if_pos (k_z c3)]
          have : (flN R0 R1 R2 s (k + 1)).testBit t = true := by
            unfold flN
            rw [if_pos ⟨by omega, c3⟩, Nat.testBit_or, t_pow, c2]; simp
          rw [flN_mono this (by omega), Bool.or_true, if_pos rfl]
        · rw [if_neg (k_nz c3 (Nat.lt_trans (dN_lt r1 s) (by omega)))]
          apply ih
          · rw [show gvN R0 R2 (k + 1) = gvN R0 R2 k ||| 2 ^ R0 k by rw [gvN_s, if_pos (by omega)], Nat.testBit_or, t_pow, c2]; simp
          · unfold flN; rw [if_neg (fun q => c3 q.2)]; exact hf
      · rw [if_neg (by rw [nI_eq (by omega) (by omega)]; exact c2)]
        apply ih
        · rw [show gvN R0 R2 (k + 1) = gvN R0 R2 k ||| 2 ^ R0 k by rw [gvN_s, if_pos (by omega)], Nat.testBit_or, t_pow, decide_eq_false c2, Bool.or_false]; exact hv
        · unfold flN
          split
          · rw [Nat.testBit_or, t_pow, decide_eq_false c2, Bool.or_false]; exact hf
          · exact hf
theorem e12_stand {n s t : Nat} {R0 R1 R2 : Nat → Nat} {σ τ : z_M} (h : RS n R0 R1 R2 σ τ) (ht : t < 8) : f12_doesStand (nI t) (nI s) τ = some (if (!(gvN R0 R2 n).testBit t || (flN R0 R1 R2 s n).testBit t) = true then 1 else 0, τ) := e12_standL h ht n 0 z_fu 0 (by omega) (show n < 1000 by have := h.1; omega) (by rw [show gvN R0 R2 0 = 0 from rfl, Nat.zero_testBit]; rfl) (by rw [show flN R0 R1 R2 s 0 = 0 from rfl, Nat.zero_testBit])
/-- one round of the reference -/
theorem e12_round {n rest s : Nat} {R0 R1 R2 : Nat → Nat} {σ τ : z_M} (h : RS n R0 R1 R2 σ τ) (hr : rest < 256) (kc : Int32 → Int32 → Int32 → z_M → Option (Int32 × z_M)) (q : Nat → Bool) (hq : ∀ t, q t = (rest.testBit t && (!(gvN R0 R2 n).testBit t || (flN R0 R1 R2 s n).testBit t))) : ∀ (r k f : Nat), k + r = 8 → r < f → f12_down_L67 kc f (nI rest) (nI (s ||| bN q k)) (nI s) (nI k) τ = kc (nI rest) (nI (s ||| bN q 8)) (nI s) τ
  | 0, k, f, h1, h2 => by
    obtain ⟨f, rfl⟩ : ∃ m, f = m + 1 := ⟨f - 1, by omega⟩
    obtain rfl : k = 8 := by omega
    unfold f12_down_L67 f12_down_J110
    rw [l_8, if_neg (nI_nlt (by omega) (by omega))]
  | r + 1, k, f, h1, h2 => by
    obtain ⟨f, rfl⟩ : ∃ m, f = m + 1 := ⟨f - 1, by omega⟩
    have ih := e12_round h hr kc q hq r (k + 1) f (by omega) (by omega)
    unfold f12_down_L67
    rw [k_bit rest hr k (by omega), l_8, if_pos (nI_lt (by omega) (by omega)), e12_stand h (by omega), q_bnd, nI_1, k_shl k (by omega), k_or, Nat.or_assoc]
    rw [bN_s (k := k)] at ih
    have hk := hq k
    by_cases hb : rest.testBit k = true
    · rw [hb, Bool.true_and] at hk
      rw [if_pos hb, if_pos rfl, ← hk]
      by_cases hs : q k = true
      · rw [if_pos hs] at ih; rw [if_pos hs, if_neg (by decide)]; exact ih
      · rw [if_neg hs] at ih; rw [if_neg hs, if_pos rfl]; exact ih
    · have hb' : rest.testBit k = false := by simpa using hb
      rw [hb', Bool.false_and] at hk
      rw [if_neg (by rw [hk]; decide)] at ih
      rw [if_neg hb, if_neg (by decide)]; exact ih
/-- the reference's round is the class's -/
theorem st_round {n rest : Nat} {R0 R1 R2 : Nat → Nat} (hr : rest < 256) (h0 : ∀ i, i < n → R0 i < 8) (h1 : ∀ i, i < n → 0 < R1 i ∧ R1 i < 256) : ∀ (j : Nat) (q : Nat → Bool), (∀ t, q t = (rest.testBit t && (!(gvN R0 R2 n).testBit t || (flN R0 R1 R2 (stN R0 R1 R2 n rest j) n).testBit t))) → stN R0 R1 R2 n rest j ||| bN q 8 = stN R0 R1 R2 n rest (j + 1)
  | 0, q, hq => by
    have e : stN R0 R1 R2 n rest 0 = 0 := by unfold stN; rfl
    rw [e] at hq ⊢
    apply e_ext (Nat.or_lt_two_pow (n := 8) (by omega) (bN_lt q 8)) (stN_lt hr _)
    intro i hi
    unfold stN
    rw [Nat.zero_or, bN_bit, hq, flN_0 h1, t_dN hr, Nat.zero_testBit]
    simp [hi]
  | j + 1, q, hq => by
    apply e_ext (Nat.or_lt_two_pow (n := 8) (stN_lt hr _) (bN_lt q 8)) (stN_lt hr _)
    intro i hi
    have hsub : ∀ m, (stN R0 R1 R2 n rest 1).testBit i = true → (stN R0 R1 R2 n rest (m + 1)).testBit i = true := by
      intro m
      induction m with
      | zero => exact id
      | succ m ih =>
        intro hh
        unfold stN
        rw [Nat.testBit_or, ih hh]; rfl
    have h2 := hsub j
    conv => rhs; unfold stN
    rw [Nat.testBit_or, bN_bit, hq, Nat.testBit_or, Nat.testBit_and]
    have h3 : (stN R0 R1 R2 n rest 1).testBit i = (rest.testBit i && !(gvN R0 R2 n).testBit i) := by
      unfold stN; rw [t_dN hr]
    rw [h3] at h2
    cases a : (stN R0 R1 R2 n rest (j + 1)).testBit i <;> cases b : rest.testBit i <;> cases c : (gvN R0 R2 n).testBit i <;> simp_all
theorem st_const {n rest : Nat} {R0 R1 R2 : Nat → Nat} (hr : rest < 256) (h0 : ∀ i, i < n → R0 i < 8) (h1 : ∀ i, i < n → 0 < R1 i ∧ R1 i < 256) {i : Nat} (h : stN R0 R1 R2 n rest (i + 1) = stN R0 R1 R2 n rest i) : ∀ j, stN R0 R1 R2 n rest (i + j) = stN R0 R1 R2 n rest i
  | 0 => rfl
  | j + 1 => by
    have ih := st_const hr h0 h1 h j
    have e1 := st_round (R2 := R2) hr h0 h1 (i + j) _ (fun t => rfl)
    have e2 := st_round (R2 := R2) hr h0 h1 i _ (fun t => rfl)
    rw [show i + (j + 1) = i + j + 1 by omega, ← e1, ih, e2, h]
theorem pc_strict {a b : Nat} (ha : a < 256) (hb : b < 256) (h : ∀ i, i < 8 → a.testBit i = true → b.testBit i = true) (hne : b ≠ a) : pc a < pc b := by
  unfold pc
  rw [cN_ws, cN_ws]
  apply ws_strict h
  by_cases hex : ∃ i, i < 8 ∧ a.testBit i = false ∧ b.testBit i = true
  · obtain ⟨i, i1, i2, i3⟩ := hex
    exact ⟨i, i1, i2, i3, by omega⟩
  · exfalso
    apply hne
    apply e_ext hb ha
    intro i hi
    cases e1 : b.testBit i <;> cases e2 : a.testBit i
    · rfl
    · have := h i hi e2; rw [e1] at this; exact absurd this (by decide)
    · exact absurd ⟨i, hi, e2, e1⟩ hex
    · rfl
theorem st_fix {n rest : Nat} {R0 R1 R2 : Nat → Nat} (hr : rest < 256) (h0 : ∀ i, i < n → R0 i < 8) (h1 : ∀ i, i < n → 0 < R1 i ∧ R1 i < 256) : ∃ i, i ≤ 8 ∧ stN R0 R1 R2 n rest (i + 1) = stN R0 R1 R2 n rest i := by
  by_cases hex : ∃ i, i ≤ 8 ∧ stN R0 R1 R2 n rest (i + 1) = stN R0 R1 R2 n rest i
  · exact hex
  · exfalso
    have : ∀ j, j ≤ 9 → j ≤ pc (stN R0 R1 R2 n rest j) := by
      intro j
      induction j with
      | zero => intro _; omega
      | succ j ih =>
        intro hj
        have a := ih (by omega)
        have b := pc_strict (stN_lt (R0 := R0) (R1 := R1) (R2 := R2) (n := n) hr j) (stN_lt hr (j + 1)) (fun i hi hb => by
          have e := st_round (R2 := R2) hr h0 h1 j _ (fun t => rfl)
          rw [← e, Nat.testBit_or, hb]; rfl) (fun e => hex ⟨j, by omega, e⟩)
        omega
    have h9 := this 9 (by omega)
    have := pc_le (stN R0 R1 R2 n rest 9)
    omega
theorem e12_downL {n rest i : Nat} {R0 R1 R2 : Nat → Nat} {σ τ : z_M} (h : RS n R0 R1 R2 σ τ) (hr : rest < 256) (hi : i ≤ 8) (hfix : stN R0 R1 R2 n rest (i + 1) = stN R0 R1 R2 n rest i) : ∀ (r j f : Nat), j + r = i → r < f → f12_down_L53 (f + 1) (nI rest) (nI (stN R0 R1 R2 n rest (j + 1))) (nI (stN R0 R1 R2 n rest j)) τ = some (nI (dN rest (stN R0 R1 R2 n rest 9)), τ) := by
  have h0 : ∀ i, i < n → R0 i < 8 := fun i hi => (h.2.2.2 i hi).1
  have h1 : ∀ i, i < n → 0 < R1 i ∧ R1 i < 256 := fun i hi => ⟨(h.2.2.2 i hi).2.1, (h.2.2.2 i hi).2.2.1⟩
  have stop : ∀ j f, j ≤ 8 → stN R0 R1 R2 n rest (j + 1) = stN R0 R1 R2 n rest j → f12_down_L53 (f + 1) (nI rest) (nI (stN R0 R1 R2 n rest (j + 1))) (nI (stN R0 R1 R2 n rest j)) τ = some (nI (dN rest (stN R0 R1 R2 n rest 9)), τ) := by
    intro j f hj e
    have c := st_const (R2 := R2) hr h0 h1 e (9 - j)
    rw [show j + (9 - j) = 9 by omega] at c
    unfold f12_down_L53 f12_down_J113
    rw [e, if_pos rfl, k_dN hr, c]
  intro r
  induction r with
  | zero =>
    intro j f hj hf
    obtain rfl : j = i := by omega
    exact stop j f hi hfix
  | succ r ih =>
    intro j f hj hf
    by_cases e : stN R0 R1 R2 n rest (j + 1) = stN R0 R1 R2 n rest j
    · exact stop j f (by omega) e
    · obtain ⟨f, rfl⟩ : ∃ m, f = m + 1 := ⟨f - 1, by omega⟩
      have a1 := stN_lt (R0 := R0) (R1 := R1) (R2 := R2) (n := n) hr j
      have a2 := stN_lt (R0 := R0) (R1 := R1) (R2 := R2) (n := n) hr (j + 1)
      have rd := e12_round (s := stN R0 R1 R2 n rest (j + 1)) h hr (f12_down_L53 (f + 1)) _ (fun t => rfl) 8 0 z_fu (by omega) (by decide)
      rw [st_round (R2 := R2) hr h0 h1 (j + 1) _ (fun t => rfl)] at rd
      conv at rd => lhs; unfold bN
      rw [Nat.or_zero] at rd
      unfold f12_down_L53
      rw [if_neg (by rw [nI_eq (by omega) (by omega)]; exact fun q => e q.symm)]
      have rd : f12_down_L67 (f12_down_L53 (f + 1)) z_fu (nI rest) (nI (stN R0 R1 R2 n rest (j + 1))) (nI (stN R0 R1 R2 n rest (j + 1))) 0 τ = _ := rd
      rw [rd]
      exact ih (j + 1) f (by omega) (by omega)
theorem p_down0 : p_down Rel0 := by
  intro p1 p2 σ τ hR
  replace hR := Rel0_told hR
  unfold f12_down f11_down
  rw [q_let]
  generalize z_set τ 0 0 0 = τ at hR ⊢
  have hR0 := hR
  obtain ⟨⟨H, hN, hU⟩, hI, hT, hF, hC⟩ := hR
  obtain ⟨g1, g2, g3, g4, g5, g6, g7, g8, g9, g10⟩ := hN
  have hH := g1.1
  rcases g_house hH (σ := σ) (τ := τ) g1.2.1 g1.2.2.1 p1 with ⟨c1, c2⟩ | ⟨h, hh, rfl, c1, c2⟩
  · rw [c1, c2]; exact ⟨-1, σ, τ, rfl, rfl, hR0⟩
  rw [c1, c2, q_bnd, q_bnd, i_10, i_10]
  rcases g_thing p2 σ τ with ⟨d1, d2⟩ | ⟨t, ht, rfl, d1, d2⟩
  · rw [d1, d2]; exact ⟨-1, σ, τ, rfl, rfl, hR0⟩
  have hsu := e12_suresOf (h := h) (by omega) τ (fun i hi => (g10.2.2.2.1 i hi).1)
  have hS : sN (σ 19) h < 256 := sN_lt _ _
  rw [d1, d2, q_bnd, q_bnd, i_10, i_10, e0_degreeOf (by omega) ht, q_bnd, hsu, q_bnd, hsu, q_bnd]
  have hb : z_shr (nI (sN (σ 19) h)) (nI t) &&& 1 = if σ 19 (8 * h + t) < 90 then 0 else 1 := by
    rw [k_bit _ hS t ht, sN_bit ht]
    by_cases q : σ 19 (8 * h + t) < 90
    · rw [if_pos q, decide_eq_true q]; rfl
    · rw [if_neg q, decide_eq_false q]; rfl
  have hb : z_shr (nI (sN (σ (1 + 17 + 1)) h)) (nI t) &&& 1 = if σ 19 (8 * h + t) < 90 then 0 else 1 := hb
  rw [hb]
  show ∃ r σ' τ', (if σ 19 (8 * h + t) < 90 then _ else _) = some (r, σ') ∧ _
  by_cases hq : σ 19 (8 * h + t) < 90
  · rw [if_pos hq, if_pos hq, if_pos rfl]; exact ⟨-1, σ, τ, rfl, rfl, hR0⟩
  rw [if_neg hq, if_neg hq, if_neg (by decide)]
  obtain ⟨n, R0, R1, R2, hr⟩ := RS_of g4
  have hn := hr.1
  have hrest : dN (sN (σ 19) h) (2 ^ t) < 256 := dN_lt hS _
  have h0 : ∀ i, i < n → R0 i < 8 := fun i hi => (hr.2.2.2 i hi).1
  have h1 : ∀ i, i < n → 0 < R1 i ∧ R1 i < 256 := fun i hi => ⟨(hr.2.2.2 i hi).2.1, (hr.2.2.2 i hi).2.2.1⟩
  have hc : f6_falls 1 (nI h) (nI t) σ = some (nI (dN (dN (sN (σ 19) h) (2 ^ t)) (stN R0 R1 R2 n (dN (sN (σ 19) h) (2 ^ t)) 9)), σ) := by
    unfold f6_falls
    have k1 : f0_sureOf (1 + 17) (nI h) σ = some (nI (sN (σ 19) h), σ) := e0_sureOf (c0 := 18) (by omega) σ
    have k2 : f6_falls_L22 z_fu 1 (nI (dN (sN (σ 19) h) (2 ^ t))) 0 0 σ = _ := e6_fallL22 hr (nI (dN (sN (σ 19) h) (2 ^ t))) n 0 z_fu (by omega) (show n < 1000 by omega)
    have k3 := e6_fallL82 hr hrest 8 0 z_fu (by omega) (by decide)
    conv at k3 => lhs; unfold stN
    rw [k1, q_bnd, k_shl t (by omega), k_dN hS, k2]
    unfold f6_falls_J70
    rw [k_dN hrest]
    exact k3
  obtain ⟨i, hi, hfix⟩ := st_fix (R2 := R2) hrest h0 h1
  have sr := st_round (R2 := R2) (rest := dN (sN (σ 19) h) (2 ^ t)) hrest h0 h1 0 _ (fun t => rfl)
  rw [show stN R0 R1 R2 n (dN (sN (σ 19) h) (2 ^ t)) 0 = 0 by unfold stN; rfl] at sr
  have rd : ∀ K, f12_down_L67 K z_fu (nI (dN (sN (σ 19) h) (2 ^ t))) 0 0 0 τ = K (nI (dN (sN (σ 19) h) (2 ^ t))) (nI (stN R0 R1 R2 n (dN (sN (σ 19) h) (2 ^ t)) (0 + 1))) (nI 0) τ := fun K => by
    have := e12_round (s := 0) hr hrest K _ (fun t => rfl) 8 0 z_fu (by omega) (by decide)
    rw [sr, show ∀ q, bN q 0 = 0 from fun _ => rfl, Nat.or_zero] at this
    exact this
  have dl := e12_downL hr hrest hi hfix i 0 998 (by omega) (by omega)
  rw [show stN R0 R1 R2 n (dN (sN (σ 19) h) (2 ^ t)) 0 = 0 by unfold stN; rfl] at dl
  have hm : f12_down_L53 z_fu (nI (dN (sN (σ 19) h) (2 ^ t))) 0 (-1) τ = some (nI (dN (dN (sN (σ 19) h) (2 ^ t)) (stN R0 R1 R2 n (dN (sN (σ 19) h) (2 ^ t)) 9)), τ) := by
    show f12_down_L53 (999 + 1) _ _ _ τ = _
    unfold f12_down_L53
    rw [if_neg (by decide), rd]
    exact dl
  have hx : nI (sN (σ (1 + 17 + 1)) h) &&& (z_shl 1 (nI t) ^^^ -1) = nI (dN (sN (σ 19) h) (2 ^ t)) := by
    rw [k_shl t (by omega)]
    exact k_dN hS _
  rw [hc, q_bnd, hx, hm]
  exact ⟨_, σ, τ, rfl, rfl, hR0⟩
