/-! tools for the pure part: literals, bits, loops -/
theorem l_0 : (0 : Int32) = nI 0 := rfl
theorem l_1 : (1 : Int32) = nI 1 := rfl
theorem l_2 : (2 : Int32) = nI 2 := rfl
theorem l_3 : (3 : Int32) = nI 3 := rfl
theorem l_4 : (4 : Int32) = nI 4 := rfl
theorem l_5 : (5 : Int32) = nI 5 := rfl
theorem l_6 : (6 : Int32) = nI 6 := rfl
theorem l_7 : (7 : Int32) = nI 7 := rfl
theorem l_8 : (8 : Int32) = nI 8 := rfl
theorem l_9 : (9 : Int32) = nI 9 := rfl
theorem l_10 : (10 : Int32) = nI 10 := rfl
theorem l_11 : (11 : Int32) = nI 11 := rfl
theorem l_12 : (12 : Int32) = nI 12 := rfl
theorem l_13 : (13 : Int32) = nI 13 := rfl
theorem l_14 : (14 : Int32) = nI 14 := rfl
theorem l_15 : (15 : Int32) = nI 15 := rfl
theorem l_16 : (16 : Int32) = nI 16 := rfl
theorem l_17 : (17 : Int32) = nI 17 := rfl
theorem l_18 : (18 : Int32) = nI 18 := rfl
theorem l_19 : (19 : Int32) = nI 19 := rfl
theorem l_20 : (20 : Int32) = nI 20 := rfl
theorem l_21 : (21 : Int32) = nI 21 := rfl
theorem l_22 : (22 : Int32) = nI 22 := rfl
theorem l_23 : (23 : Int32) = nI 23 := rfl
theorem l_24 : (24 : Int32) = nI 24 := rfl
theorem l_25 : (25 : Int32) = nI 25 := rfl
theorem l_26 : (26 : Int32) = nI 26 := rfl
theorem l_27 : (27 : Int32) = nI 27 := rfl
theorem l_30 : (30 : Int32) = nI 30 := rfl
theorem l_32 : (32 : Int32) = nI 32 := rfl
theorem l_33 : (33 : Int32) = nI 33 := rfl
theorem l_34 : (34 : Int32) = nI 34 := rfl
theorem l_35 : (35 : Int32) = nI 35 := rfl
theorem l_36 : (36 : Int32) = nI 36 := rfl
theorem l_37 : (37 : Int32) = nI 37 := rfl
theorem l_38 : (38 : Int32) = nI 38 := rfl
theorem l_39 : (39 : Int32) = nI 39 := rfl
theorem l_40 : (40 : Int32) = nI 40 := rfl
theorem l_41 : (41 : Int32) = nI 41 := rfl
theorem l_42 : (42 : Int32) = nI 42 := rfl
theorem l_43 : (43 : Int32) = nI 43 := rfl
theorem l_44 : (44 : Int32) = nI 44 := rfl
theorem l_48 : (48 : Int32) = nI 48 := rfl
theorem l_49 : (49 : Int32) = nI 49 := rfl
theorem l_50 : (50 : Int32) = nI 50 := rfl
theorem l_57 : (57 : Int32) = nI 57 := rfl
theorem l_59 : (59 : Int32) = nI 59 := rfl
theorem l_60 : (60 : Int32) = nI 60 := rfl
theorem l_61 : (61 : Int32) = nI 61 := rfl
theorem l_62 : (62 : Int32) = nI 62 := rfl
theorem l_64 : (64 : Int32) = nI 64 := rfl
theorem l_68 : (68 : Int32) = nI 68 := rfl
theorem l_72 : (72 : Int32) = nI 72 := rfl
theorem l_76 : (76 : Int32) = nI 76 := rfl
theorem l_80 : (80 : Int32) = nI 80 := rfl
theorem l_84 : (84 : Int32) = nI 84 := rfl
theorem l_90 : (90 : Int32) = nI 90 := rfl
theorem l_92 : (92 : Int32) = nI 92 := rfl
theorem l_96 : (96 : Int32) = nI 96 := rfl
theorem l_99 : (99 : Int32) = nI 99 := rfl
theorem l_100 : (100 : Int32) = nI 100 := rfl
theorem l_122 : (122 : Int32) = nI 122 := rfl
theorem l_144 : (144 : Int32) = nI 144 := rfl
theorem l_150 : (150 : Int32) = nI 150 := rfl
theorem l_255 : (255 : Int32) = nI 255 := rfl
theorem l_256 : (256 : Int32) = nI 256 := rfl
theorem l_380 : (380 : Int32) = nI 380 := rfl
theorem l_400 : (400 : Int32) = nI 400 := rfl
theorem l_600 : (600 : Int32) = nI 600 := rfl
theorem l_800 : (800 : Int32) = nI 800 := rfl
theorem l_999 : (999 : Int32) = nI 999 := rfl
theorem l_1000 : (1000 : Int32) = nI 1000 := rfl
theorem l_9999 : (9999 : Int32) = nI 9999 := rfl
theorem l_10000 : (10000 : Int32) = nI 10000 := rfl
theorem l_100000 : (100000 : Int32) = nI 100000 := rfl
theorem l_256000 : (256000 : Int32) = nI 256000 := rfl
theorem k_cin {β : Type} {n N : Nat} (k : Option β) (h : n < N) (hN : N < 2 ^ 31) : z_chk (z_in (nI n) N) k = k := q_chk k (q_in h hN)
theorem k_and (a b : Nat) : nI a &&& nI b = nI (a &&& b) := by
  apply Int32.toBitVec_inj.1
  show BitVec.ofNat 32 a &&& BitVec.ofNat 32 b = BitVec.ofNat 32 (a &&& b)
  apply BitVec.eq_of_getLsbD_eq
  intro i hi
  simp [hi]
theorem k_or (a b : Nat) : nI a ||| nI b = nI (a ||| b) := by
  apply Int32.toBitVec_inj.1
  show BitVec.ofNat 32 a ||| BitVec.ofNat 32 b = BitVec.ofNat 32 (a ||| b)
  apply BitVec.eq_of_getLsbD_eq
  intro i hi
  simp [hi]
theorem k_xor (a b : Nat) : nI a ^^^ nI b = nI (a ^^^ b) := by
  apply Int32.toBitVec_inj.1
  show BitVec.ofNat 32 a ^^^ BitVec.ofNat 32 b = BitVec.ofNat 32 (a ^^^ b)
  apply BitVec.eq_of_getLsbD_eq
  intro i hi
  simp [hi]
/-- a without b -/
def dN (a b : Nat) : Nat := a &&& (255 ^^^ b)
theorem t_255 (i : Nat) : (255 : Nat).testBit i = decide (i < 8) := Nat.testBit_two_pow_sub_one 8 i
theorem t_dN {a : Nat} (ha : a < 256) (b i : Nat) : (dN a b).testBit i = (a.testBit i && !b.testBit i) := by
  unfold dN
  rw [Nat.testBit_and, Nat.testBit_xor, t_255]
  by_cases hi : i < 8
  · simp [hi]
  · have : a.testBit i = false := Nat.testBit_lt_two_pow (Nat.lt_of_lt_of_le ha (Nat.pow_le_pow_right (n := 2) (by omega) (show 8 ≤ i by omega)))
    simp [this]
theorem dN_le (a b : Nat) : dN a b ≤ a := Nat.and_le_left
theorem k_dN {a : Nat} (ha : a < 256) (b : Nat) : nI a &&& (nI b ^^^ (-1)) = nI (dN a b) := by
  apply Int32.toBitVec_inj.1
  show BitVec.ofNat 32 a &&& (BitVec.ofNat 32 b ^^^ BitVec.allOnes 32) = BitVec.ofNat 32 (dN a b)
  apply BitVec.eq_of_getLsbD_eq
  intro i hi
  simp only [BitVec.getLsbD_and, BitVec.getLsbD_xor, BitVec.getLsbD_ofNat, BitVec.getLsbD_allOnes, hi, decide_true, Bool.true_and, t_dN ha, Bool.xor_true]
theorem k_shl : ∀ j, j < 16 → z_shl 1 (nI j) = nI (2 ^ j) := by decide +kernel
theorem k_bit : ∀ s, s < 256 → ∀ t, t < 8 → z_shr (nI s) (nI t) &&& 1 = if s.testBit t then 1 else 0 := by decide +kernel
theorem e_ext {a b : Nat} (ha : a < 256) (hb : b < 256) (h : ∀ i, i < 8 → a.testBit i = b.testBit i) : a = b := by
  apply Nat.eq_of_testBit_eq
  intro i
  by_cases hi : i < 8
  · exact h i hi
  · have h8 : 256 ≤ 2 ^ i := Nat.pow_le_pow_right (n := 2) (by omega) (show 8 ≤ i by omega)
    rw [Nat.testBit_lt_two_pow (by omega), Nat.testBit_lt_two_pow (by omega)]
theorem t_hi {a i : Nat} (ha : a < 256) (hi : 8 ≤ i) : a.testBit i = false := Nat.testBit_lt_two_pow (Nat.lt_of_lt_of_le ha (Nat.pow_le_pow_right (n := 2) (by omega) hi))
theorem t_pow (j i : Nat) : (2 ^ j).testBit i = decide (j = i) := Nat.testBit_two_pow
/-- the set of those below k for which p holds -/
def bN (p : Nat → Bool) : Nat → Nat
  | 0 => 0
  | k + 1 => if p k = true then bN p k ||| 2 ^ k else bN p k
theorem bN_lt (p : Nat → Bool) : ∀ k, bN p k < 2 ^ k
  | 0 => Nat.one_pos
  | k + 1 => by
    have h1 := bN_lt p k
    have h2 : (2 : Nat) ^ k < 2 ^ (k + 1) := Nat.pow_lt_pow_right (by omega) (by omega)
    unfold bN
    split
    · exact Nat.or_lt_two_pow (by omega) h2
    · omega
theorem bN_bit (p : Nat → Bool) (i : Nat) : ∀ k, (bN p k).testBit i = (decide (i < k) && p i)
  | 0 => by simp [bN]
  | k + 1 => by
    have h1 := bN_bit p i k
    unfold bN
    by_cases hk : k = i
    · subst hk
      split
      · rename_i h; rw [Nat.testBit_or, h1, t_pow]; simp [h]
      · rename_i h; rw [h1]; simp [h]
    · have h2 : decide (i < k + 1) = decide (i < k) := by
        apply decide_eq_decide.mpr; omega
      rw [h2]
      split
      · rw [Nat.testBit_or, h1, t_pow]; simp [hk]
      · exact h1
/-- how many below k -/
def cN (p : Nat → Bool) : Nat → Nat
  | 0 => 0
  | k + 1 => cN p k + if p k = true then 1 else 0
theorem cN_le (p : Nat → Bool) : ∀ k, cN p k ≤ k
  | 0 => Nat.le_refl 0
  | k + 1 => by
    have := cN_le p k
    unfold cN
    split <;> omega
theorem cN_cong {p q : Nat → Bool} : ∀ {k : Nat}, (∀ i, i < k → p i = q i) → cN p k = cN q k
  | 0, _ => rfl
  | k + 1, h => by
    unfold cN
    rw [cN_cong (fun i hi => h i (by omega)), h k (by omega)]
def pc (s : Nat) : Nat := cN (fun t => s.testBit t) 8
theorem pc_le (s : Nat) : pc s ≤ 8 := cN_le _ 8
def bcI (p0 : Int32) : Int32 :=
  let x1 := p0 - ((z_ushr p0 1) &&& 1431655765)
  let x2 := (x1 &&& 858993459) + ((z_ushr x1 2) &&& 858993459)
  let x3 := ((x2 + (z_ushr x2 4)) &&& 252645135) + (z_ushr ((x2 + (z_ushr x2 4)) &&& 252645135) 8)
  (x3 + (z_ushr x3 16)) &&& 63
theorem bcI_pc : ∀ s, s < 256 → bcI (nI s) = nI (pc s) := by decide +kernel
theorem e_bc {s : Nat} (h : s < 256) (σ : z_M) : fj6_bitCount (nI s) σ = some (nI (pc s), σ) := by
  rw [← bcI_pc s h]; rfl
theorem pc_step : ∀ s, s < 256 → 0 < s → pc s = pc (s &&& (s - 1)) + 1 := by decide +kernel
theorem e12_onesL (τ : z_M) : ∀ (s a n : Nat), s < 256 → s < n → f12_onesOf_L4 n (nI a) (nI s) τ = some (nI (a + pc s), τ) := by
  intro s
  induction s using Nat.strongRecOn with
  | ind s ih =>
    intro a n hs hn
    obtain ⟨m, rfl⟩ : ∃ m, n = m + 1 := ⟨n - 1, by omega⟩
    unfold f12_onesOf_L4
    by_cases h0 : s = 0
    · subst h0
      rw [if_pos (show nI 0 = 0 from rfl)]; rfl
    · rw [if_neg (nI_ne0 (by omega) (by omega)), l_1, pk_sub (by omega), k_and, nI_add]
      have h1 : s &&& (s - 1) ≤ s - 1 := Nat.and_le_right
      rw [ih (s &&& (s - 1)) (by omega) (a + 1) m (by omega) (by omega), pc_step s hs (by omega)]
      congr 3; omega
theorem e12_onesOf {s : Nat} (h : s < 256) (τ : z_M) : f12_onesOf (nI s) τ = some (nI (pc s), τ) := by
  unfold f12_onesOf
  rw [l_0, e12_onesL τ s 0 z_fu h (show s < 1000 by omega), Nat.zero_add]
/-- the things of which a house is sure -/
def sN (d : Nat → Int32) (h : Nat) : Nat := bN (fun t => !decide (d (8 * h + t) < 90)) 8
theorem sN_lt (d : Nat → Int32) (h : Nat) : sN d h < 256 := bN_lt _ 8
theorem sN_bit {d : Nat → Int32} {h t : Nat} (ht : t < 8) : (sN d h).testBit t = !decide (d (8 * h + t) < 90) := by
  unfold sN; rw [bN_bit]; simp [ht]
theorem sN_cong {d d' : Nat → Int32} {h : Nat} (hd : ∀ t, t < 8 → d' (8 * h + t) = d (8 * h + t)) : sN d' h = sN d h := by
  apply e_ext (sN_lt _ _) (sN_lt _ _)
  intro i hi
  rw [sN_bit hi, sN_bit hi, hd i hi]
theorem e0_sureL (c0 h : Nat) (hh : h < 8) (σ : z_M) : ∀ (r k n : Nat), k + r = 8 → r < n → f0_sureOf_L4 n c0 (nI h) (nI (bN (fun t => !decide (σ (c0 + 1) (8 * h + t) < 90)) k)) (nI k) σ = some (nI (sN (σ (c0 + 1)) h), σ)
  | 0, k, n, hk, hn => by
    obtain ⟨m, rfl⟩ : ∃ m, n = m + 1 := ⟨n - 1, by omega⟩
    obtain rfl : k = 8 := by omega
    unfold f0_sureOf_L4
    rw [l_8, if_neg (nI_nlt (by omega) (by omega))]
    rfl
  | r + 1, k, n, hk, hn => by
    obtain ⟨m, rfl⟩ : ∃ m, n = m + 1 := ⟨n - 1, by omega⟩
    unfold f0_sureOf_L4
    rw [l_8, if_pos (nI_lt (by omega) (by omega)), pk_mul, nI_add, k_cin _ (by omega) (by omega), q_ix (by omega), Nat.mul_comm h 8]
    have ih := e0_sureL c0 h hh σ r (k + 1) m (by omega) (by omega)
    rw [nI_1, k_shl k (by omega), k_or]
    unfold bN at ih
    split
    · rename_i hc
      rw [if_neg (by simp [hc])] at ih; exact ih
    · rename_i hc
      rw [if_pos (by simp [hc])] at ih; exact ih
theorem e0_sureOf {c0 h : Nat} (hh : h < 8) (σ : z_M) : f0_sureOf c0 (nI h) σ = some (nI (sN (σ (c0 + 1)) h), σ) := e0_sureL c0 h hh σ 8 0 z_fu rfl (by decide)
theorem e0_sures {c0 h : Nat} (hh : h < 8) (σ : z_M) : f0_sures c0 (nI h) σ = some (nI (pc (sN (σ (c0 + 1)) h)), σ) := by
  unfold f0_sures
  rw [e0_sureOf hh, q_bnd, e_bc (sN_lt _ _), q_bnd]
theorem e0_degreeOf {c0 h t : Nat} (hh : h < 8) (ht : t < 8) (σ : z_M) : f0_degreeOf c0 (nI h) (nI t) σ = some (σ (c0 + 1) (8 * h + t), σ) := by
  unfold f0_degreeOf
  rw [l_8, pk_mul, nI_add, k_cin _ (by omega) (by omega), q_ix (by omega), Nat.mul_comm h 8]
theorem e12_degreeOf {h t : Nat} (hh : h < 8) (ht : t < 8) (τ : z_M) : f12_degreeOf (nI h) (nI t) τ = some (τ 1 (4 + (8 * h + t)) + 50, τ) := by
  unfold f12_degreeOf
  rw [l_4, l_8, pk_mul, nI_add, nI_add, k_cin _ (by omega) (by omega), q_ix (by omega), Nat.add_assoc]
theorem e12_sureL {d : Nat → Int32} {h : Nat} (hh : h < 8) (τ : z_M) (hd : ∀ i, i < 64 → τ 1 (4 + i) = d i - 50) : ∀ (r k n : Nat), k + r = 8 → r < n → f12_suresOf_L4 n (nI h) (nI (bN (fun t => !decide (d (8 * h + t) < 90)) k)) (nI k) τ = some (nI (sN d h), τ)
  | 0, k, n, hk, hn => by
    obtain ⟨m, rfl⟩ : ∃ m, n = m + 1 := ⟨n - 1, by omega⟩
    obtain rfl : k = 8 := by omega
    unfold f12_suresOf_L4
    rw [l_8, if_neg (nI_nlt (by omega) (by omega))]
    rfl
  | r + 1, k, n, hk, hn => by
    obtain ⟨m, rfl⟩ : ∃ m, n = m + 1 := ⟨n - 1, by omega⟩
    unfold f12_suresOf_L4
    rw [l_8, if_pos (nI_lt (by omega) (by omega)), e12_degreeOf hh (by omega), q_bnd, hd (8 * h + k) (by omega), q_sub_add]
    have ih := e12_sureL hh τ hd r (k + 1) m (by omega) (by omega)
    rw [nI_1, k_shl k (by omega), k_or]
    unfold bN at ih
    split
    · rename_i hc
      rw [if_neg (by simp [hc])] at ih; exact ih
    · rename_i hc
      rw [if_pos (by simp [hc])] at ih; exact ih
theorem e12_suresOf {d : Nat → Int32} {h : Nat} (hh : h < 8) (τ : z_M) (hd : ∀ i, i < 64 → τ 1 (4 + i) = d i - 50) : f12_suresOf (nI h) τ = some (nI (sN d h), τ) := e12_sureL hh τ hd 8 0 z_fu rfl (by decide)
theorem e0_hasPot {c0 h : Nat} (hh : h < 8) (σ : z_M) : f0_hasPot c0 (nI h) σ = some (if σ (c0 + 2) h = -1 then 0 else 1, σ) := by
  unfold f0_hasPot
  rw [k_cin _ hh (by omega), q_ix (by omega)]
  split <;> rfl
theorem e12_potOf {h : Nat} (hh : h < 8) (τ : z_M) : f12_potOf (nI h) τ = some (τ 1 (68 + h) - 1, τ) := by
  unfold f12_potOf
  rw [l_68, nI_add, k_cin _ (by omega) (by omega), q_ix (by omega)]
theorem e12_potOf' {h : Nat} {v : Int32} (hh : h < 8) (τ : z_M) (hv : τ 1 (68 + h) = v + 1) : f12_potOf (nI h) τ = some (v, τ) := by
  rw [e12_potOf hh, hv, q_add_sub]
theorem e12_held (p a b : Int32) (τ : z_M) : f12_held p a b τ = some (if p < a then a else if b < p then b else p, τ) := by
  unfold f12_held
  split
  · rfl
  · split <;> rfl
theorem e12_greater (a b : Int32) (τ : z_M) : f12_greater a b τ = some (if b < a then a else b, τ) := by
  unfold f12_greater
  split <;> rfl
theorem e9_at {c0 N i k : Nat} (hN : S1.2.1 (c0 + 1) = N) (h : 5 * i + k < N) (h2 : N < 2 ^ 31) (σ : z_M) : f9_at c0 (nI i) (nI k) σ = some (σ (c0 + 1) (5 * i + k), σ) := by
  unfold f9_at
  rw [l_5, pk_mul, nI_add, hN, k_cin _ (by omega) h2, q_ix (by omega), Nat.mul_comm i 5]
theorem e12_ofReason {i k : Nat} (h : 3 * i + k < 96) (τ : z_M) : f12_ofReason (nI i) (nI k) τ = some (τ 17 (3 * i + k), τ) := by
  unfold f12_ofReason
  rw [l_3, pk_mul, nI_add, k_cin _ (by omega) (by omega), q_ix (by omega)]
/-- the reference's first act of every call -/
theorem Rel0_told {σ τ : z_M} (h : Rel0 σ τ) : Rel0 σ (z_set τ 0 0 0) := h
theorem k_set_same {σ : z_M} {c k : Nat} {v : Int32} (h : σ c k = v) : z_set σ c k v = σ := by
  funext c'
  rw [q_set]
  split
  · rename_i e
    subst e
    funext j
    rw [q_upd]
    split
    · rename_i e; rw [e, h]
    · rfl
  · rfl
theorem q_shift (p : Int32) (a n : Nat) (hn : 0 < n) (h : a + n < 2 ^ 30) : (∃ j, j < n ∧ p = nI (a + j) ∧ p - nI a = nI j) ∨ ((p - nI a < 0 ∨ ¬ p - nI a < nI n) ∧ (p < nI a ∨ nI (a + n - 1) < p)) := by
  by_cases h1 : p - nI a < 0
  · right
    refine ⟨.inl h1, ?_⟩
    by_cases h2 : p < nI a
    · exact .inl h2
    · right
      have h0 : ¬ p < 0 := by
        intro hc
        apply h2
        have e1 := Int32.lt_iff_toInt_lt.mp hc
        apply Int32.lt_iff_toInt_lt.mpr
        rw [nI_toInt (by omega)]
        have : (0 : Int32).toInt = 0 := rfl
        omega
      obtain ⟨j, hj, rfl⟩ := nI_of h0
      have h3 : a ≤ j := by
        rcases Nat.lt_or_ge j a with q | q
        · exact absurd (nI_lt q (by omega)) h2
        · exact q
      rw [pk_sub h3] at h1
      exact absurd h1 (nI_pos (by omega))
  · by_cases h2 : p - nI a < nI n
    · left
      obtain ⟨j, hj, e⟩ := q_nat (by omega) h1 h2
      refine ⟨j, hj, ?_, e⟩
      have := q_sub_add p (nI a)
      rw [e, nI_add] at this
      rw [← this, Nat.add_comm]
    · right
      refine ⟨.inr h2, ?_⟩
      by_cases h3 : p < nI a
      · exact .inl h3
      · right
        have h0 : ¬ p < 0 := by
          intro hc
          apply h3
          have e1 := Int32.lt_iff_toInt_lt.mp hc
          apply Int32.lt_iff_toInt_lt.mpr
          rw [nI_toInt (by omega)]
          have : (0 : Int32).toInt = 0 := rfl
          omega
        obtain ⟨j, hj, rfl⟩ := nI_of h0
        have h4 : a ≤ j := by
          rcases Nat.lt_or_ge j a with q | q
          · exact absurd (nI_lt q (by omega)) h3
          · exact q
        rw [pk_sub h4, nI_ltI (by omega) (by omega)] at h2
        exact nI_lt (by omega) hj
