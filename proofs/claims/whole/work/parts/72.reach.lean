/-! the reference's way to one thing more -/
/-- the reference's places: may, given, left -/
def RV (H : Nat) (M Y l : Nat → Nat) (τ : z_M) : Prop := (∀ h, h < H → τ 22 h = nI (M h) ∧ M h < 256 ∧ τ 24 h = nI (Y h) ∧ Y h < 256) ∧ (∀ x, x < 8 → τ 25 x = nI (l x) ∧ l x ≤ 1000) ∧ τ 0 6 = nI H
theorem e12_freeL {H h : Nat} {M Y l : Nat → Nat} {τ : z_M} (hR : RV H M Y l τ) (hH : H ≤ 8) (hh : h < H) : ∀ (r k n : Nat), k + r = 8 → r < n → (f12_freeThing_L2 n (nI h) (nI k) τ = some (-1, τ) ∧ ∀ x, k ≤ x → x < 8 → (dN (M h) (Y h)).testBit x = true → l x = 0) ∨ ∃ x, x < 8 ∧ (dN (M h) (Y h)).testBit x = true ∧ 0 < l x ∧ f12_freeThing_L2 n (nI h) (nI k) τ = some (nI x, τ)
  | 0, k, n, h1, h2 => by
    obtain ⟨n, rfl⟩ : ∃ m, n = m + 1 := ⟨n - 1, by omega⟩
    left
    refine ⟨?_, fun x a b => absurd b (by omega)⟩
    unfold f12_freeThing_L2
    rw [l_8, if_neg (nI_nlt (by omega) (by omega))]
  | r + 1, k, n, h1, h2 => by
    obtain ⟨n, rfl⟩ : ∃ m, n = m + 1 := ⟨n - 1, by omega⟩
    have ih := e12_freeL hR hH hh r (k + 1) n (by omega) (by omega)
    obtain ⟨a1, a2, a3, a4⟩ := hR.1 h hh
    obtain ⟨b1, b2⟩ := hR.2.1 k (by omega)
    have hlt : dN (M h) (Y h) &&& 2 ^ k < 2 ^ 31 := Nat.lt_of_le_of_lt Nat.and_le_left (by have := dN_lt a2 (Y h); omega)
    have hb : f12_freeThing_L2 (n + 1) (nI h) (nI k) τ = (if nI (dN (M h) (Y h) &&& 2 ^ k) = 0 then f12_freeThing_L2 n (nI h) (nI (k + 1)) τ else if 0 < nI (l k) then some (nI k, τ) else f12_freeThing_L2 n (nI h) (nI (k + 1)) τ) := by
      conv => lhs; unfold f12_freeThing_L2
      rw [l_8, if_pos (nI_lt (by omega) (by omega)), k_cin _ (by omega) (by omega), k_cin _ (by omega) (by omega), q_ix (show h < 2 ^ 31 by omega), a1, a3, k_dN a2, k_shl k (by omega), k_and, k_cin _ (by omega) (by omega), q_ix (show k < 2 ^ 31 by omega), b1, nI_1]
    rw [hb]
    by_cases hc : (dN (M h) (Y h)).testBit k = true
    · have hne : ¬ dN (M h) (Y h) &&& 2 ^ k = 0 := fun q => by rw [and_pow.mp q] at hc; exact absurd hc (by decide)
      rw [if_neg (k_nz hne hlt)]
      by_cases hl : 0 < l k
      · rw [if_pos (k_gt hl (by omega))]
        exact .inr ⟨k, by omega, hc, hl, rfl⟩
      · rw [if_neg (k_ngt hl)]
        rcases ih with ⟨i1, i2⟩ | i
        · left
          refine ⟨i1, fun x a b c => ?_⟩
          by_cases e : x = k
          · rw [e]; omega
          · exact i2 x (by omega) b c
        · exact .inr i
    · have hz : dN (M h) (Y h) &&& 2 ^ k = 0 := and_pow.mpr (by simpa using hc)
      rw [if_pos (k_z hz)]
      rcases ih with ⟨i1, i2⟩ | i
      · left
        refine ⟨i1, fun x a b c => ?_⟩
        by_cases e : x = k
        · rw [e] at c; exact absurd c hc
        · exact i2 x (by omega) b c
      · exact .inr i
theorem e12_free {H h : Nat} {M Y l : Nat → Nat} {τ : z_M} (hR : RV H M Y l τ) (hH : H ≤ 8) (hh : h < H) : (f12_freeThing (nI h) τ = some (-1, τ) ∧ ∀ x, x < 8 → (dN (M h) (Y h)).testBit x = true → l x = 0) ∨ ∃ x, x < 8 ∧ (dN (M h) (Y h)).testBit x = true ∧ 0 < l x ∧ f12_freeThing (nI h) τ = some (nI x, τ) := by
  rcases e12_freeL hR hH hh 8 0 z_fu (by omega) (by decide) with ⟨a, b⟩ | a
  · exact .inl ⟨a, fun x hx => b x (by omega) hx⟩
  · exact .inr a
theorem low_bit : ∀ b, b < 256 → b ≠ 0 → ∃ j, j < 8 ∧ (b.testBit j = true ∧ nI b &&& -(nI b) = nI (2 ^ j)) := by decide +kernel
/-- how many are reached -/
def cR (H : Nat) (τ : z_M) : Nat := cN (fun h => !decide (τ 26 h = -1)) H
/-- the tree of those reached, with ranks -/
def TRe (H fi fr : Nat) (M Y rk : Nat → Nat) (τ : z_M) : Prop := τ 26 fr = nI fr ∧ rk fr = 0 ∧ ∀ o, o < H → τ 26 o ≠ -1 → rk o < cR H τ ∧ (o = fr ∨ (fi ≤ o ∧ ∃ p j, p < H ∧ j < 8 ∧ τ 26 o = nI p ∧ τ 26 p ≠ -1 ∧ rk p < rk o ∧ τ 27 o = nI (2 ^ j) ∧ (dN (M p) (Y p)).testBit j = true ∧ (Y o).testBit j = true))
theorem cR_set {H o : Nat} {τ : z_M} {v : Int32} (ho : o < H) (h0 : τ 26 o = -1) (hv : v ≠ -1) {τ' : z_M} (e : ∀ i, τ' 26 i = if i = o then v else τ 26 i) : cR H τ' = cR H τ + 1 := by
  unfold cR
  rw [cN_ws, cN_ws]
  exact ws_add (w := fun _ => 1) ho (by rw [h0]; rfl) (by rw [e o, if_pos rfl, decide_eq_false hv]; rfl) (fun i _ hne => by rw [e i, if_neg hne])
/-- what is looked at and left alone while one looks for a way -/
def RF (τ0 τ : z_M) : Prop := ∀ c, c ≠ 26 → c ≠ 27 → τ c = τ0 c
theorem RV_cong {H : Nat} {M Y l : Nat → Nat} {τ τ' : z_M} (h : RV H M Y l τ) (e : RF τ τ') : RV H M Y l τ' := by
  unfold RV at h ⊢
  rw [e 22 (by omega) (by omega), e 24 (by omega) (by omega), e 25 (by omega) (by omega), e 0 (by omega) (by omega)]; exact h
/-- a house from which nothing leads on -/
def shut (H fi : Nat) (M Y l : Nat → Nat) (τ : z_M) (h : Nat) : Prop := τ 26 h ≠ -1 → (∀ x, x < 8 → (dN (M h) (Y h)).testBit x = true → l x = 0) ∧ ∀ o, fi ≤ o → o < H → τ 26 o = -1 → dN (M h) (Y h) &&& Y o = 0
theorem e12_L82 {H fi fr h : Nat} {M Y l : Nat → Nat} {τ0 : z_M} (hH : H ≤ 8) (hR : RV H M Y l τ0) (hh : h < H) (hfr : fr < H) (hfi : fi ≤ H) (K : Int32 → Int32 → Int32 → z_M → Option (Int32 × z_M)) (K2 : Int32 → Int32 → z_M → Option (Int32 × z_M)) : ∀ (r o n : Nat) (v : Int32) (τ : z_M) (rk : Nat → Nat), o + r = H → fi ≤ o → r < n → RF τ0 τ → TRe H fi fr M Y rk τ → τ 26 h ≠ -1 → (v = 0 ∨ v = 1) → (v = 0 → ∀ i, fi ≤ i → i < o → τ 26 i = -1 → dN (M h) (Y h) &&& Y i = 0) → ∃ τ' rk' v', f12_reaches_L82 K2 K n (nI fi) v (nI h) (nI o) τ = K (nI fi) v' (nI (h + 1)) τ' ∧ RF τ0 τ' ∧ TRe H fi fr M Y rk' τ' ∧ (v' = 0 ∨ v' = 1) ∧ cR H τ ≤ cR H τ' ∧ (v' = 0 → v = 0 ∧ (∀ i, τ' 26 i = τ 26 i) ∧ ∀ i, fi ≤ i → i < H → τ' 26 i = -1 → dN (M h) (Y h) &&& Y i = 0) ∧ (v = 0 → v' = 1 → cR H τ < cR H τ')
  | 0, o, n, v, τ, rk, h1, ho, h2, hF, hT, hr, hv, hz => by
    obtain ⟨n, rfl⟩ : ∃ m, n = m + 1 := ⟨n - 1, by omega⟩
    refine ⟨τ, rk, v, ?_, hF, hT, hv, Nat.le_refl _, fun q => ⟨q, fun _ => rfl, fun i a b => hz q i a (by omega)⟩, fun a b => by rw [a] at b; exact absurd b (by decide)⟩
    unfold f12_reaches_L82 f12_reaches_J167
    rw [hF 0 (by omega) (by omega), hR.2.2, if_neg (nI_nlt (by omega) (by omega)), nI_1]
  | r + 1, o, n, v, τ, rk, h1, ho, h2, hF, hT, hr, hv, hz => by
    obtain ⟨n, rfl⟩ : ∃ m, n = m + 1 := ⟨n - 1, by omega⟩
    have hR' := RV_cong hR hF
    obtain ⟨a1, a2, a3, a4⟩ := hR'.1 h hh
    obtain ⟨b1, b2, b3, b4⟩ := hR'.1 o (by omega)
    have hbl : dN (M h) (Y h) &&& Y o < 256 := Nat.lt_of_le_of_lt Nat.and_le_right b4
    have hb : f12_reaches_L82 K2 K (n + 1) (nI fi) v (nI h) (nI o) τ = (if τ 26 o = -1 then if nI (dN (M h) (Y h) &&& Y o) = 0 then f12_reaches_L82 K2 K n (nI fi) v (nI h) (nI (o + 1)) τ else f12_reaches_L82 K2 K n (nI fi) 1 (nI h) (nI (o + 1)) (z_set (z_set τ 26 o (nI h)) 27 o (nI (dN (M h) (Y h) &&& Y o) &&& -(nI (dN (M h) (Y h) &&& Y o)))) else f12_reaches_L82 K2 K n (nI fi) v (nI h) (nI (o + 1)) τ) := by
      conv => lhs; unfold f12_reaches_L82
      rw [hR'.2.2, if_pos (nI_lt (by omega) (by omega)), q_ix (show h < 2 ^ 31 by omega), q_ix (show o < 2 ^ 31 by omega), a1, a3, b3, k_dN a2, k_and]
      simp (disch := omega) only [k_cin, q_let]
      rw [nI_1]
    rw [hb]
    by_cases hun : τ 26 o = -1
    · rw [if_pos hun]
      by_cases hbo : dN (M h) (Y h) &&& Y o = 0
      · rw [if_pos (k_z hbo)]
        exact e12_L82 hH hR hh hfr hfi K K2 r (o + 1) n v τ rk (by omega) (by omega) (by omega) hF hT hr hv (fun q i a b c => by
          by_cases e : i = o
          · rw [e]; exact hbo
          · exact hz q i a (by omega) c)
      · rw [if_neg (k_nz hbo (by omega))]
        obtain ⟨j, j1, j2, j3⟩ := low_bit _ hbl hbo
        rw [j3]
        let τ1 := z_set (z_set τ 26 o (nI h)) 27 o (nI (2 ^ j))
        have e26 : ∀ i, τ1 26 i = if i = o then nI h else τ 26 i := fun i => by
          show z_set (z_set τ 26 o (nI h)) 27 o (nI (2 ^ j)) 26 i = _
          rw [s_ne (by omega)]
          by_cases e : i = o
          · rw [e, s_eq, if_pos rfl]
          · rw [s_kn e, if_neg e]
        have e27 : ∀ i, τ1 27 i = if i = o then nI (2 ^ j) else τ 27 i := fun i => by
          show z_set (z_set τ 26 o (nI h)) 27 o (nI (2 ^ j)) 27 i = _
          by_cases e : i = o
          · rw [e, s_eq, if_pos rfl]
          · rw [s_kn e, if_neg e, s_ne (by omega)]
        have hcR := cR_set (τ := τ) (τ' := τ1) (show o < H by omega) hun (q_neg (by omega)) e26
        have hof : o ≠ fr := fun q => by rw [q, hT.1] at hun; exact q_neg (by omega) hun
        have hoh : h ≠ o := fun q => hr (by rw [q]; exact hun)
        have hjb : (dN (M h) (Y h)).testBit j = true ∧ (Y o).testBit j = true := by
          rw [Nat.testBit_and] at j2
          revert j2
          cases (dN (M h) (Y h)).testBit j <;> cases (Y o).testBit j <;> simp
        have hT1 : TRe H fi fr M Y (put rk o (cR H τ)) τ1 := by
          refine ⟨by rw [e26, if_neg (fun q => hof q.symm)]; exact hT.1, by rw [put_ne (fun q => hof q.symm)]; exact hT.2.1, fun i hi hir => ?_⟩
          by_cases e : i = o
          · subst e
            rw [put_eq, hcR]
            refine ⟨by omega, .inr ⟨ho, h, j, hh, j1, by rw [e26, if_pos rfl], by rw [e26, if_neg hoh]; exact hr, ?_, by rw [e27, if_pos rfl], hjb.1, hjb.2⟩⟩
            rw [put_ne hoh]
            exact (hT.2.2 h hh hr).1
          · rw [e26, if_neg e] at hir
            obtain ⟨c1, c2⟩ := hT.2.2 i hi hir
            rw [put_ne e, hcR]
            refine ⟨by omega, ?_⟩
            rcases c2 with c2 | ⟨c2, p, jj, d1, d2, d3, d4, d5, d6, d7, d8⟩
            · exact .inl c2
            · right
              have hpo : p ≠ o := fun q => d4 (by rw [q]; exact hun)
              exact ⟨c2, p, jj, d1, d2, by rw [e26, if_neg e]; exact d3, by rw [e26, if_neg hpo]; exact d4, by rw [put_ne hpo]; exact d5, by rw [e27, if_neg e]; exact d6, d7, d8⟩
        obtain ⟨τ', rk', v', y1, y2, y3, y4, y5, y6, y7⟩ := e12_L82 hH hR hh hfr hfi K K2 r (o + 1) n 1 τ1 (put rk o (cR H τ)) (by omega) (by omega) (by omega) (fun c p q => by
          show z_set (z_set τ 26 o (nI h)) 27 o (nI (2 ^ j)) c = _
          rw [s_ne q, s_ne p]; exact hF c p q) hT1 (by rw [e26, if_neg hoh]; exact hr) (.inr rfl) (fun q => absurd q (by decide))
        exact ⟨τ', rk', v', y1, y2, y3, y4, by omega, fun q => absurd (y6 q).1 (by decide), fun _ _ => by omega⟩
    · rw [if_neg hun]
      exact e12_L82 hH hR hh hfr hfi K K2 r (o + 1) n v τ rk (by omega) (by omega) (by omega) hF hT hr hv (fun q i a b c => by
        by_cases e : i = o
        · rw [e] at c; exact absurd c hun
        · exact hz q i a (by omega) c)
theorem e12_L43 {H fi fr : Nat} {M Y l : Nat → Nat} {τ0 : z_M} (hH : H ≤ 8) (hR : RV H M Y l τ0) (hfr : fr < H) (hfi : fi ≤ H) (K2 : Int32 → Int32 → z_M → Option (Int32 × z_M)) : ∀ (r k n : Nat) (v : Int32) (τ : z_M) (rk : Nat → Nat), k + r = H → r < n → RF τ0 τ → TRe H fi fr M Y rk τ → (v = 0 ∨ v = 1) → (v = 0 → ∀ h, h < k → shut H fi M Y l τ h) → (∃ h τ' rk' x, h < H ∧ x < 8 ∧ f12_reaches_L43 K2 n (nI fi) v (nI k) τ = some (nI h, τ') ∧ RF τ0 τ' ∧ TRe H fi fr M Y rk' τ' ∧ τ' 26 h ≠ -1 ∧ (dN (M h) (Y h)).testBit x = true ∧ 0 < l x ∧ f12_freeThing (nI h) τ' = some (nI x, τ')) ∨ ∃ τ' rk' v', f12_reaches_L43 K2 n (nI fi) v (nI k) τ = K2 (nI fi) v' τ' ∧ RF τ0 τ' ∧ TRe H fi fr M Y rk' τ' ∧ (v' = 0 ∨ v' = 1) ∧ cR H τ ≤ cR H τ' ∧ (v' = 0 → ∀ h, h < H → shut H fi M Y l τ' h) ∧ (v = 0 → v' = 1 → cR H τ < cR H τ')
  | 0, k, n, v, τ, rk, h1, h2, hF, hT, hv, hz => by
    obtain ⟨n, rfl⟩ : ∃ m, n = m + 1 := ⟨n - 1, by omega⟩
    right
    refine ⟨τ, rk, v, ?_, hF, hT, hv, Nat.le_refl _, fun q h hh => hz q h (by omega), fun a b => by rw [a] at b; exact absurd b (by decide)⟩
    unfold f12_reaches_L43 f12_reaches_J173
    rw [hF 0 (by omega) (by omega), hR.2.2, if_neg (nI_nlt (by omega) (by omega))]
  | r + 1, k, n, v, τ, rk, h1, h2, hF, hT, hv, hz => by
    obtain ⟨n, rfl⟩ : ∃ m, n = m + 1 := ⟨n - 1, by omega⟩
    have hR' := RV_cong hR hF
    have hb : f12_reaches_L43 K2 (n + 1) (nI fi) v (nI k) τ = (if τ 26 k = -1 then f12_reaches_L43 K2 n (nI fi) v (nI (k + 1)) τ else z_bnd (f12_freeThing (nI k) τ) fun r2 σ3 => if r2 = -1 then f12_reaches_L82 K2 (f12_reaches_L43 K2 n) z_fu (nI fi) v (nI k) (nI fi) σ3 else some (nI k, σ3)) := by
      conv => lhs; unfold f12_reaches_L43
      unfold f12_reaches_J167
      rw [hR'.2.2, if_pos (nI_lt (by omega) (by omega)), k_cin _ (by omega) (by omega), q_ix (by omega), nI_1]
    rw [hb]
    by_cases hun : τ 26 k = -1
    · rw [if_pos hun]
      exact e12_L43 hH hR hfr hfi K2 r (k + 1) n v τ rk (by omega) (by omega) hF hT hv (fun q h hh => by
        by_cases e : h = k
        · intro q2; rw [e] at q2; exact absurd hun q2
        · exact hz q h (by omega))
    · rw [if_neg hun]
      rcases e12_free hR' hH (h := k) (by omega) with ⟨f1, f2⟩ | ⟨x, x1, x2, x3, x4⟩
      · rw [f1, q_bnd, if_pos rfl]
        obtain ⟨τ1, rk1, v1, y1, y2, y3, y4, y5, y6, y7⟩ := e12_L82 hH hR (h := k) (by omega) hfr hfi (f12_reaches_L43 K2 n) K2 (H - fi) fi z_fu v τ rk (by omega) (Nat.le_refl fi) (show H - fi < 1000 by omega) hF hT hun hv (fun _ i a b => absurd b (by omega))
        rw [y1]
        have ih := e12_L43 hH hR hfr hfi K2 r (k + 1) n v1 τ1 rk1 (by omega) (by omega) y2 y3 y4 (fun q h hh => by
          obtain ⟨q0, q1, q2⟩ := y6 q
          by_cases e : h = k
          · subst e
            intro _
            exact ⟨f2, q2⟩
          · intro q3
            rw [q1] at q3
            obtain ⟨s1, s2⟩ := hz q0 h (by omega) q3
            exact ⟨s1, fun o a b c => s2 o a b (by rw [← q1]; exact c)⟩)
        rcases ih with i | ⟨τ', rk', v', z1, z2, z3, z4, z5, z6, z7⟩
        · exact .inl i
        · right
          refine ⟨τ', rk', v', z1, z2, z3, z4, by omega, z6, fun a b => ?_⟩
          rcases y4 with c | c
          · have := z7 c b; omega
          · have := y7 a c; omega
      · rw [x4, q_bnd, if_neg (q_neg (by omega))]
        left
        exact ⟨k, τ, rk, x, by omega, x1, rfl, hF, hT, hun, x2, x3, x4⟩
theorem e12_L34 {H fi fr : Nat} {M Y l : Nat → Nat} {τ0 : z_M} (hH : H ≤ 8) (hR : RV H M Y l τ0) (hfr : fr < H) (hfi : fi ≤ H) : ∀ (u n : Nat) (τ : z_M) (rk : Nat → Nat), H - cR H τ ≤ u → u + 1 < n → RF τ0 τ → TRe H fi fr M Y rk τ → (∃ h τ' rk' x, h < H ∧ x < 8 ∧ f12_reaches_L34 n (nI fi) 1 τ = some (nI h, τ') ∧ RF τ0 τ' ∧ TRe H fi fr M Y rk' τ' ∧ τ' 26 h ≠ -1 ∧ (dN (M h) (Y h)).testBit x = true ∧ 0 < l x ∧ f12_freeThing (nI h) τ' = some (nI x, τ')) ∨ ∃ τ' rk', f12_reaches_L34 n (nI fi) 1 τ = some (-1, τ') ∧ RF τ0 τ' ∧ TRe H fi fr M Y rk' τ' ∧ ∀ h, h < H → shut H fi M Y l τ' h := by
  intro u
  induction u with
  | zero =>
    intro n τ rk hu hn hF hT
    obtain ⟨n, rfl⟩ : ∃ m, n = m + 2 := ⟨n - 2, by omega⟩
    have hb : f12_reaches_L34 (n + 2) (nI fi) 1 τ = f12_reaches_L43 (f12_reaches_L34 (n + 1)) z_fu (nI fi) 0 0 τ := by
      conv => lhs; unfold f12_reaches_L34
      rw [if_neg (by decide)]
    rw [hb]
    rcases e12_L43 hH hR hfr hfi (f12_reaches_L34 (n + 1)) H 0 z_fu 0 τ rk (by omega) (show H < 1000 by omega) hF hT (.inl rfl) (fun _ h hh => absurd hh (by omega)) with i | ⟨τ', rk', v', z1, z2, z3, z4, z5, z6, z7⟩
    · exact .inl i
    · have z1 : f12_reaches_L43 (f12_reaches_L34 (n + 1)) z_fu (nI fi) 0 0 τ = f12_reaches_L34 (n + 1) (nI fi) v' τ' := z1
      rcases z4 with c | c
      · right
        refine ⟨τ', rk', ?_, z2, z3, z6 c⟩
        rw [z1, c]
        unfold f12_reaches_L34
        rw [if_pos rfl]
      · have h1 := z7 rfl c
        have h2 : cR H τ' ≤ H := cN_le _ H
        omega
  | succ u ih =>
    intro n τ rk hu hn hF hT
    obtain ⟨n, rfl⟩ : ∃ m, n = m + 2 := ⟨n - 2, by omega⟩
    have hb : f12_reaches_L34 (n + 2) (nI fi) 1 τ = f12_reaches_L43 (f12_reaches_L34 (n + 1)) z_fu (nI fi) 0 0 τ := by
      conv => lhs; unfold f12_reaches_L34
      rw [if_neg (by decide)]
    rw [hb]
    rcases e12_L43 hH hR hfr hfi (f12_reaches_L34 (n + 1)) H 0 z_fu 0 τ rk (by omega) (show H < 1000 by omega) hF hT (.inl rfl) (fun _ h hh => absurd hh (by omega)) with i | ⟨τ', rk', v', z1, z2, z3, z4, z5, z6, z7⟩
    · exact .inl i
    · have z1 : f12_reaches_L43 (f12_reaches_L34 (n + 1)) z_fu (nI fi) 0 0 τ = f12_reaches_L34 (n + 1) (nI fi) v' τ' := z1
      rcases z4 with c | c
      · right
        refine ⟨τ', rk', ?_, z2, z3, z6 c⟩
        rw [z1, c]
        unfold f12_reaches_L34
        rw [if_pos rfl]
      · have h1 := z7 rfl c
        rw [z1, c]
        exact ih (n + 1) τ' rk' (by omega) (by omega) z2 z3
theorem e12_rL2 {H fi fr : Nat} {τ0 : z_M} (hH : H ≤ 8) (eh : τ0 0 6 = nI H) (hfr : fr < H) : ∀ (r k n : Nat) (τ : z_M), k + r = H → r < n → RF τ0 τ → (∀ o, o < k → τ 26 o = if o = fr then nI fr else -1) → ∃ τ', f12_reaches_L2 n (nI fi) (nI fr) (nI k) τ = f12_reaches_J32 (nI fi) τ' ∧ RF τ0 τ' ∧ ∀ o, o < H → τ' 26 o = if o = fr then nI fr else -1
  | 0, k, n, τ, h1, h2, hF, hk => by
    obtain ⟨n, rfl⟩ : ∃ m, n = m + 1 := ⟨n - 1, by omega⟩
    obtain rfl : k = H := by omega
    refine ⟨τ, ?_, hF, hk⟩
    unfold f12_reaches_L2
    rw [hF 0 (by omega) (by omega), eh, if_neg (nI_nlt (by omega) (by omega))]
  | r + 1, k, n, τ, h1, h2, hF, hk => by
    obtain ⟨n, rfl⟩ : ∃ m, n = m + 1 := ⟨n - 1, by omega⟩
    have go : ∀ v : Int32, v = (if k = fr then nI fr else -1) → ∃ τ', f12_reaches_L2 n (nI fi) (nI fr) (nI (k + 1)) (z_set τ 26 k v) = f12_reaches_J32 (nI fi) τ' ∧ RF τ0 τ' ∧ ∀ o, o < H → τ' 26 o = if o = fr then nI fr else -1 := fun v hv => e12_rL2 hH eh hfr r (k + 1) n (z_set τ 26 k v) (by omega) (by omega) (fun c p q => by rw [s_ne p]; exact hF c p q) (fun o ho => by
      by_cases e : o = k
      · rw [e, s_eq]; exact hv
      · rw [s_kn e]; exact hk o (by omega))
    have hb : f12_reaches_L2 (n + 1) (nI fi) (nI fr) (nI k) τ = (if k = fr then f12_reaches_L2 n (nI fi) (nI fr) (nI (k + 1)) (z_set τ 26 k (nI fr)) else f12_reaches_L2 n (nI fi) (nI fr) (nI (k + 1)) (z_set τ 26 k (-1))) := by
      conv => lhs; unfold f12_reaches_L2
      unfold f12_reaches_J25
      rw [hF 0 (by omega) (by omega), eh, if_pos (nI_lt (by omega) (by omega)), k_cin _ (by omega) (by omega), k_cin _ (by omega) (by omega), q_ix (by omega), q_let, q_let, nI_1]
      by_cases e : k = fr
      · rw [if_pos e, if_pos (by rw [e])]
      · rw [if_neg e, if_neg (by rw [nI_eq (by omega) (by omega)]; exact e)]
    rw [hb]
    by_cases e : k = fr
    · rw [if_pos e]; exact go _ (by rw [if_pos e])
    · rw [if_neg e]; exact go _ (by rw [if_neg e])
theorem e12_reaches {H fi fr : Nat} {M Y l : Nat → Nat} {τ0 : z_M} (hH : H ≤ 8) (hR : RV H M Y l τ0) (hfr : fr < H) (hfi : fi ≤ H) : (∃ h τ' rk' x, h < H ∧ x < 8 ∧ f12_reaches (nI fi) (nI fr) τ0 = some (nI h, τ') ∧ RF τ0 τ' ∧ TRe H fi fr M Y rk' τ' ∧ τ' 26 h ≠ -1 ∧ (dN (M h) (Y h)).testBit x = true ∧ 0 < l x ∧ f12_freeThing (nI h) τ' = some (nI x, τ')) ∨ ∃ τ' rk', f12_reaches (nI fi) (nI fr) τ0 = some (-1, τ') ∧ RF τ0 τ' ∧ TRe H fi fr M Y rk' τ' ∧ ∀ h, h < H → shut H fi M Y l τ' h := by
  obtain ⟨τ1, a1, a2, a3⟩ := e12_rL2 (fi := fi) hH hR.2.2 hfr H 0 z_fu τ0 (by omega) (show H < 1000 by omega) (fun _ _ _ => rfl) (fun o ho => absurd ho (by omega))
  have a1 : f12_reaches (nI fi) (nI fr) τ0 = f12_reaches_L34 z_fu (nI fi) 1 τ1 := a1
  have hT : TRe H fi fr M Y (fun _ => 0) τ1 := by
    refine ⟨by rw [a3 fr hfr, if_pos rfl], rfl, fun o ho hor => ?_⟩
    have : o = fr := by
      by_cases e : o = fr
      · exact e
      · rw [a3 o ho, if_neg e] at hor; exact absurd rfl hor
    refine ⟨?_, .inl this⟩
    show 0 < cR H τ1
    rcases Nat.eq_zero_or_pos (cR H τ1) with q | q
    · unfold cR at q
      rw [cN_zero] at q
      have := q fr hfr
      rw [a3 fr hfr, if_pos rfl, decide_eq_false (q_neg (by omega))] at this
      exact absurd this (by decide)
    · exact q
  rw [a1]
  exact e12_L34 hH hR hfr hfi H z_fu τ1 (fun _ => 0) (by omega) (show H + 1 < 1000 by omega) a2 hT
