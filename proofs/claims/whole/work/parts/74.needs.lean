/-! the reference: what each house must get, and of what -/
theorem m_3 (k : Nat) : (3 : Int32) * nI k = nI (3 * k) := by
  rw [show (3 : Int32) = nI 3 from rfl, pk_mul]
theorem e12_fL49 {H n h : Nat} {S W0 W1 W2 : Nat → Nat} {σ0 τ0 : z_M} (hH : H ≤ 8) (hS : S h < 256) (hw : WS H n W0 W1 W2 σ0 τ0) (hh : h < H) (K : Int32 → z_M → Option (Unit × z_M)) : ∀ (r k f : Nat) (τ : z_M), k + r = n → r < f → (∀ c, c ≠ 22 → c ≠ 23 → τ c = τ0 c) → τ 22 h = nI (mw S W0 W1 W2 k h) → ∃ τ', f12_findsNeeds_L49 K f (nI h) (nI k) τ = K (nI (h + 1)) τ' ∧ (∀ c, c ≠ 22 → τ' c = τ c) ∧ (∀ i, i ≠ h → τ' 22 i = τ 22 i) ∧ τ' 22 h = nI (mw S W0 W1 W2 n h)
  | 0, k, f, τ, h1, h2, hf, hk => by
    obtain ⟨f, rfl⟩ : ∃ m, f = m + 1 := ⟨f - 1, by omega⟩
    obtain rfl : k = n := by omega
    have hn := hw.1
    have e38 : τ 0 38 = nI k := by rw [hf _ (by omega) (by omega)]; exact hw.2.2.1
    refine ⟨τ, ?_, fun _ _ => rfl, fun _ _ => rfl, hk⟩
    unfold f12_findsNeeds_L49 f12_findsNeeds_J116
    rw [e38, if_neg (nI_nlt (by omega) (by omega)), nI_1]
  | r + 1, k, f, τ, h1, h2, hf, hk => by
    obtain ⟨f, rfl⟩ : ∃ m, f = m + 1 := ⟨f - 1, by omega⟩
    have hn := hw.1
    have e38 : τ 0 38 = nI n := by rw [hf _ (by omega) (by omega)]; exact hw.2.2.1
    obtain ⟨w0, w1, w2, -, b0, b1, b2⟩ := hw.2.2.2 k (by omega)
    have e18 : τ 18 = τ0 18 := hf 18 (by omega) (by omega)
    rw [← e18] at b0 b1 b2
    have hml := mw_lt (W0 := W0) (W1 := W1) (W2 := W2) hS k
    have h3 : (2 : Int32) = nI 2 := rfl
    have hb : f12_findsNeeds_L49 K (f + 1) (nI h) (nI k) τ = (if nI (W0 k) = nI h then if nI (W1 k) = 1 then f12_findsNeeds_L49 K f (nI h) (nI (k + 1)) (z_set τ 22 h (nI (dN (mw S W0 W1 W2 k h) (2 ^ W2 k)))) else f12_findsNeeds_L49 K f (nI h) (nI (k + 1)) τ else f12_findsNeeds_L49 K f (nI h) (nI (k + 1)) τ) := by
      conv => lhs; unfold f12_findsNeeds_L49
      rw [e38, if_pos (nI_lt (by omega) (by omega)), m_3, nI_1, nI_1, h3, nI_add, k_cin _ (by omega) (by omega), q_ix (show 3 * k < 2 ^ 31 by omega), b0, k_cin _ (by omega) (by omega), q_ix (show 3 * k + 1 < 2 ^ 31 by omega), b1, k_cin _ (show h < 8 by omega) (by omega), k_cin _ (by omega) (by omega), k_cin _ (show h < 8 by omega) (by omega), q_ix (show 3 * k + 2 < 2 ^ 31 by omega), b2, q_ix (by omega), hk, k_shl _ (by omega), k_dN hml, q_let]
    rw [hb]
    by_cases c : W0 k = h ∧ W1 k = 1
    · have c1 : nI (W1 k) = 1 := by rw [c.2]; rfl
      rw [if_pos (by rw [c.1]), if_pos c1]
      obtain ⟨τ', y1, y2, y3, y4⟩ := e12_fL49 hH hS hw hh K r (k + 1) f (z_set τ 22 h (nI (dN (mw S W0 W1 W2 k h) (2 ^ W2 k)))) (by omega) (by omega) (fun c a b => by rw [s_ne a]; exact hf c a b) (by
        rw [s_eq]
        show _ = nI (if W0 k = h ∧ W1 k = 1 then _ else _)
        rw [if_pos c])
      exact ⟨τ', y1, fun c hc => by rw [y2 c hc, s_ne hc], fun i hi => by rw [y3 i hi, s_kn hi], y4⟩
    · have hs : (if nI (W0 k) = nI h then if nI (W1 k) = 1 then f12_findsNeeds_L49 K f (nI h) (nI (k + 1)) (z_set τ 22 h (nI (dN (mw S W0 W1 W2 k h) (2 ^ W2 k)))) else f12_findsNeeds_L49 K f (nI h) (nI (k + 1)) τ else f12_findsNeeds_L49 K f (nI h) (nI (k + 1)) τ) = f12_findsNeeds_L49 K f (nI h) (nI (k + 1)) τ := by
        by_cases c1 : W0 k = h
        · rw [if_pos (by rw [c1]), if_neg (fun q => by
            have q : nI (W1 k) = nI 1 := q
            rw [nI_eq (by omega) (by omega)] at q; exact c ⟨c1, q⟩)]
        · rw [if_neg (by rw [nI_eq (by omega) (by omega)]; exact c1)]
      rw [hs]
      exact e12_fL49 hH hS hw hh K r (k + 1) f τ (by omega) (by omega) hf (by
        rw [hk]
        show _ = nI (if W0 k = h ∧ W1 k = 1 then _ else _)
        rw [if_neg c])
theorem e12_fL2 {H n mo : Nat} {S W0 W1 W2 nd : Nat → Nat} {d : Nat → Int32} {σ0 τ0 : z_M} (hH : H ≤ 8) (hmo : mo ≤ 8) (hS : ∀ h, S h = sN d h) (hd : ∀ i, i < 64 → τ0 1 (4 + i) = d i - 50) (hnd : ∀ h, nd h = pc (S h) - mo) (eh : τ0 0 6 = nI H) (em : τ0 0 7 + 3 = nI mo) (hw : WS H n W0 W1 W2 σ0 τ0) : ∀ (r k f : Nat) (τ : z_M), k + r = H → r < f → (∀ c, c ≠ 22 → c ≠ 23 → τ c = τ0 c) → (∀ h, h < k → τ 22 h = nI (mw S W0 W1 W2 n h) ∧ τ 23 h = nI (nd h)) → ∃ τ', f12_findsNeeds_L2 f (nI k) τ = some ((), τ') ∧ (∀ c, c ≠ 22 → c ≠ 23 → τ' c = τ0 c) ∧ ∀ h, h < H → τ' 22 h = nI (mw S W0 W1 W2 n h) ∧ τ' 23 h = nI (nd h)
  | 0, k, f, τ, h1, h2, hf, hk => by
    obtain ⟨f, rfl⟩ : ∃ m, f = m + 1 := ⟨f - 1, by omega⟩
    obtain rfl : k = H := by omega
    refine ⟨τ, ?_, hf, hk⟩
    unfold f12_findsNeeds_L2
    rw [hf 0 (by omega) (by omega), eh, if_neg (nI_nlt (by omega) (by omega))]
  | r + 1, k, f, τ, h1, h2, hf, hk => by
    obtain ⟨f, rfl⟩ : ∃ m, f = m + 1 := ⟨f - 1, by omega⟩
    have hk8 : k < 8 := by omega
    have hSk : S k < 256 := by rw [hS k]; exact sN_lt _ _
    have hpl : pc (S k) ≤ 8 := cN_le _ 8
    let τ1 := z_set (z_set τ 22 k (nI (S k))) 23 k (nI (nd k))
    have f1 : ∀ c, c ≠ 22 → c ≠ 23 → τ1 c = τ0 c := fun c a b => by
      show z_set (z_set τ 22 k (nI (S k))) 23 k (nI (nd k)) c = _
      rw [s_ne b, s_ne a]; exact hf c a b
    have hn := hw.1
    obtain ⟨τ2, y1, y2, y3, y4⟩ := e12_fL49 (S := S) hH hSk hw (h := k) (by omega) (f12_findsNeeds_L2 f) n 0 z_fu τ1 (by omega) (show n < 1000 by omega) f1 (by
      show z_set (z_set τ 22 k (nI (S k))) 23 k (nI (nd k)) 22 k = _
      rw [s_ne (by omega), s_eq]; rfl)
    have hb : f12_findsNeeds_L2 (f + 1) (nI k) τ = f12_findsNeeds_L2 f (nI (k + 1)) τ2 := by
      conv => lhs; unfold f12_findsNeeds_L2
      unfold f12_most
      rw [hf 0 (by omega) (by omega), eh, if_pos (nI_lt (by omega) (by omega)), e12_suresOf hk8 τ (fun i hi => by rw [hf 1 (by omega) (by omega)]; exact hd i hi), q_bnd, k_cin _ hk8 (by omega), q_ix (by omega), q_let, k_cin _ hk8 (by omega), s_eq, ← hS k, e12_onesOf hSk, q_bnd, q_bnd, s_ne (by omega), hf 0 (by omega) (by omega), em, e12_greater, (bel_sub (by omega) (by omega)).2, ← hnd k, q_bnd, k_cin _ hk8 (by omega), q_let]
      exact y1
    rw [hb]
    exact e12_fL2 hH hmo hS hd hnd eh em hw r (k + 1) f τ2 (by omega) (by omega) (fun c a b => by rw [y2 c a]; exact f1 c a b) (fun h hh => by
      by_cases e : h = k
      · refine ⟨by rw [e]; exact y4, ?_⟩
        rw [e, y2 23 (by omega)]
        show z_set (z_set τ 22 k (nI (S k))) 23 k (nI (nd k)) 23 k = _
        rw [s_eq]
      · refine ⟨?_, ?_⟩
        · rw [y3 h e]
          show z_set (z_set τ 22 k (nI (S k))) 23 k (nI (nd k)) 22 h = _
          rw [s_ne (by omega), s_kn e]; exact (hk h (by omega)).1
        · rw [y2 23 (by omega)]
          show z_set (z_set τ 22 k (nI (S k))) 23 k (nI (nd k)) 23 h = _
          rw [s_kn e, s_ne (by omega)]; exact (hk h (by omega)).2)
