/-! the class's share, whole -/
def WS (H n : Nat) (W0 W1 W2 : Nat → Nat) (σ τ : z_M) : Prop := n ≤ 12 ∧ σ 10 2 = nI n ∧ τ 0 38 = nI n ∧ ∀ i, i < n → W0 i < H ∧ W1 i ≤ 1 ∧ W2 i < 8 ∧ (σ 11 (5 * i) = nI (W0 i) ∧ σ 11 (5 * i + 1) = nI (W1 i) ∧ σ 11 (5 * i + 2) = nI (W2 i)) ∧ (τ 18 (3 * i) = nI (W0 i) ∧ τ 18 (3 * i + 1) = nI (W1 i) ∧ τ 18 (3 * i + 2) = nI (W2 i))
theorem WS_of {H : Nat} {σ τ : z_M} (h : G_wo H (σ 10 2) (τ 0 38) (σ 11) (τ 18)) (hH : H ≤ 8) : ∃ n W0 W1 W2, WS H n W0 W1 W2 σ τ := by
  obtain ⟨n, hn, e1, e2, hl⟩ := h
  refine ⟨n, fun i => z_ix (σ 11 (5 * i)), fun i => z_ix (σ 11 (5 * i + 1)), fun i => z_ix (σ 11 (5 * i + 2)), hn, e1, e2, fun i hi => ?_⟩
  obtain ⟨⟨m0, m1, m2⟩, ⟨t, ht, e0⟩, e1, g, hg, e2⟩ := hl i hi
  have hone : z_ix (σ 11 (5 * i + 1)) ≤ 1 ∧ σ 11 (5 * i + 1) = nI (z_ix (σ 11 (5 * i + 1))) := by
    rcases e1 with e1 | e1 <;> rw [e1] <;> exact ⟨by decide, rfl⟩
  show z_ix (σ 11 (5 * i)) < H ∧ z_ix (σ 11 (5 * i + 1)) ≤ 1 ∧ z_ix (σ 11 (5 * i + 2)) < 8 ∧ (σ 11 (5 * i) = nI (z_ix (σ 11 (5 * i))) ∧ σ 11 (5 * i + 1) = nI (z_ix (σ 11 (5 * i + 1))) ∧ σ 11 (5 * i + 2) = nI (z_ix (σ 11 (5 * i + 2)))) ∧ (τ 18 (3 * i) = nI (z_ix (σ 11 (5 * i))) ∧ τ 18 (3 * i + 1) = nI (z_ix (σ 11 (5 * i + 1))) ∧ τ 18 (3 * i + 2) = nI (z_ix (σ 11 (5 * i + 2))))
  rw [m0, m1, m2, e0, e2, q_ix (by omega), q_ix (by omega)]
  exact ⟨ht, hone.1, hg, ⟨rfl, hone.2, rfl⟩, rfl, hone.2, rfl⟩
theorem WS_a {H n i : Nat} {W0 W1 W2 : Nat → Nat} {σ τ σ' : z_M} (h : WS H n W0 W1 W2 σ τ) (hi : i < n) (e : σ' 11 = σ 11) : f9_at (1 + 9) (nI i) 0 σ' = some (nI (W0 i), σ') ∧ f9_at (1 + 9) (nI i) 1 σ' = some (nI (W1 i), σ') ∧ f9_at (1 + 9) (nI i) 2 σ' = some (nI (W2 i), σ') := by
  obtain ⟨h1, -, -, h2⟩ := h
  obtain ⟨-, -, -, ⟨a, b, c⟩, -⟩ := h2 i hi
  refine ⟨?_, ?_, ?_⟩
  · rw [l_0, e9_at (N := 60) rfl (by omega) (by omega), show σ' (1 + 9 + 1) (5 * i + 0) = nI (W0 i) from by show σ' 11 (5 * i) = _; rw [e]; exact a]
  · rw [l_1, e9_at (N := 60) rfl (by omega) (by omega), show σ' (1 + 9 + 1) (5 * i + 1) = nI (W1 i) from by show σ' 11 (5 * i + 1) = _; rw [e]; exact b]
  · rw [l_2, e9_at (N := 60) rfl (by omega) (by omega), show σ' (1 + 9 + 1) (5 * i + 2) = nI (W2 i) from by show σ' 11 (5 * i + 2) = _; rw [e]; exact c]
/-- what a house may get, by the first k works -/
def mw (S W0 W1 W2 : Nat → Nat) : Nat → Nat → Nat
  | 0, h => S h
  | k + 1, h => if W0 k = h ∧ W1 k = 1 then dN (mw S W0 W1 W2 k h) (2 ^ W2 k) else mw S W0 W1 W2 k h
theorem mw_lt {S W0 W1 W2 : Nat → Nat} {h : Nat} (hs : S h < 256) : ∀ k, mw S W0 W1 W2 k h < 256
  | 0 => hs
  | k + 1 => by
    unfold mw
    split
    · exact dN_lt (mw_lt hs k) _
    · exact mw_lt hs k
theorem mw_z {S W0 W1 W2 : Nat → Nat} {h : Nat} (hs : S h = 0) : ∀ k, mw S W0 W1 W2 k h = 0
  | 0 => hs
  | k + 1 => by
    unfold mw
    rw [mw_z hs k]
    split
    · unfold dN; exact Nat.zero_and _
    · rfl
theorem e2_L22 {S : Nat → Nat} {σ0 : z_M} (hS : ∀ h, S h = sN (σ0 19) h) : ∀ (r k n : Nat) (σ : z_M), k + r = 8 → r < n → (∀ c, c ≠ 107 → c ≠ 108 → σ c = σ0 c) → (∀ h, h < k → σ 107 h = 0 ∧ σ 108 h = nI (S h)) → ∃ σ', f2_share_L22 n 1 (nI k) σ = f2_share_J55 1 σ' ∧ (∀ c, c ≠ 107 → c ≠ 108 → σ' c = σ0 c) ∧ ∀ h, h < 8 → σ' 107 h = 0 ∧ σ' 108 h = nI (S h)
  | 0, k, n, σ, h1, h2, hf, hk => by
    obtain ⟨n, rfl⟩ : ∃ m, n = m + 1 := ⟨n - 1, by omega⟩
    obtain rfl : k = 8 := by omega
    refine ⟨σ, ?_, hf, hk⟩
    unfold f2_share_L22
    rw [l_8, if_neg (nI_nlt (by omega) (by omega))]
  | r + 1, k, n, σ, h1, h2, hf, hk => by
    obtain ⟨n, rfl⟩ : ∃ m, n = m + 1 := ⟨n - 1, by omega⟩
    have hsu : f0_sureOf (1 + 17) (nI k) (z_set σ 107 k 0) = some (nI (S k), z_set σ 107 k 0) := by
      have := e0_sureOf (c0 := 18) (h := k) (by omega) (z_set σ 107 k 0)
      rw [hS k, show sN (σ0 19) k = sN (z_set σ 107 k 0 (18 + 1)) k from by rw [s_ne (by omega), hf 19 (by omega) (by omega)]]
      exact this
    obtain ⟨σ', y1, y2, y3⟩ := e2_L22 hS r (k + 1) n (z_set (z_set σ 107 k 0) 108 k (nI (S k))) (by omega) (by omega) (fun c p q => by rw [s_ne q, s_ne p]; exact hf c p q) (fun h hh => by
      rw [s_ne (show 107 ≠ 108 by omega)]
      by_cases e : h = k
      · rw [e, s_eq, s_eq]; exact ⟨rfl, rfl⟩
      · rw [s_kn e, s_kn e, s_ne (by omega)]; exact hk h (by omega))
    refine ⟨σ', ?_, y2, y3⟩
    conv => lhs; unfold f2_share_L22
    rw [l_8, if_pos (nI_lt (by omega) (by omega)), k_cin _ (by omega) (by omega), q_ix (by omega), q_let, hsu, q_bnd, k_cin _ (by omega) (by omega), q_let, nI_1]
    exact y1
theorem e2_L57 {H n : Nat} {S W0 W1 W2 : Nat → Nat} {σ0 τ : z_M} (hH : H ≤ 8) (hS : ∀ h, h < 8 → S h < 256) (hw : WS H n W0 W1 W2 σ0 τ) : ∀ (r k f : Nat) (σ : z_M), k + r = n → r < f → (∀ c, c < 106 → σ c = σ0 c) → (∀ h, h < 8 → σ 108 h = nI (mw S W0 W1 W2 k h)) → ∃ σ', f2_share_L57 f 1 (nI k) σ = f2_share_J117 1 σ' ∧ (∀ c, c ≠ 108 → σ' c = σ c) ∧ ∀ h, h < 8 → σ' 108 h = nI (mw S W0 W1 W2 n h)
  | 0, k, f, σ, h1, h2, hf, hk => by
    obtain ⟨f, rfl⟩ : ∃ m, f = m + 1 := ⟨f - 1, by omega⟩
    obtain rfl : k = n := by omega
    have hn := hw.1
    have e10 : σ (1 + 9) 2 = nI k := by rw [hf _ (by omega)]; exact hw.2.1
    refine ⟨σ, ?_, fun _ _ => rfl, hk⟩
    unfold f2_share_L57
    rw [e10, if_neg (nI_nlt (by omega) (by omega))]
  | r + 1, k, f, σ, h1, h2, hf, hk => by
    obtain ⟨f, rfl⟩ : ∃ m, f = m + 1 := ⟨f - 1, by omega⟩
    have hn := hw.1
    have e10 : σ (1 + 9) 2 = nI n := by rw [hf _ (by omega)]; exact hw.2.1
    obtain ⟨a0, a1, a2⟩ := WS_a hw (i := k) (σ' := σ) (by omega) (hf 11 (by omega))
    obtain ⟨w0, w1, w2, -⟩ := hw.2.2.2 k (by omega)
    have h8 : W0 k < 8 := by omega
    have hmk := hk (W0 k) h8
    have hml := mw_lt (W0 := W0) (W1 := W1) (W2 := W2) (hS (W0 k) h8) k
    have hb : f2_share_L57 (f + 1) 1 (nI k) σ = (if nI (W1 k) = 1 then f2_share_L57 f 1 (nI (k + 1)) (z_set σ 108 (W0 k) (nI (dN (mw S W0 W1 W2 k (W0 k)) (2 ^ W2 k)))) else f2_share_L57 f 1 (nI (k + 1)) σ) := by
      conv => lhs; unfold f2_share_L57
      rw [e10, if_pos (nI_lt (by omega) (by omega)), a1, q_bnd, a0, q_bnd, k_cin _ h8 (by omega), a2, q_bnd, k_cin _ h8 (by omega), q_ix (by omega), hmk, k_shl _ (by omega), k_dN hml, q_let, nI_1]
    rw [hb]
    by_cases c : W1 k = 1
    · have c1 : nI (W1 k) = 1 := by rw [c]; rfl
      rw [if_pos c1]
      obtain ⟨σ', y1, y2, y3⟩ := e2_L57 hH hS hw r (k + 1) f (z_set σ 108 (W0 k) (nI (dN (mw S W0 W1 W2 k (W0 k)) (2 ^ W2 k)))) (by omega) (by omega) (fun c hc => by rw [s_ne (by omega)]; exact hf c hc) (fun h hh => by
        by_cases e : h = W0 k
        · rw [e, s_eq]
          show _ = nI (if W0 k = W0 k ∧ W1 k = 1 then _ else _)
          rw [if_pos ⟨rfl, c⟩]
        · rw [s_kn e, hk h hh]
          show _ = nI (if W0 k = h ∧ W1 k = 1 then _ else _)
          rw [if_neg (fun q => e q.1.symm)])
      exact ⟨σ', y1, fun c hc => by rw [y2 c hc, s_ne hc], y3⟩
    · have c1 : ¬ nI (W1 k) = 1 := fun q => by
        have q : nI (W1 k) = nI 1 := q
        rw [nI_eq (by omega) (by omega)] at q; exact c q
      rw [if_neg c1]
      exact e2_L57 hH hS hw r (k + 1) f σ (by omega) (by omega) hf (fun h hh => by
        rw [hk h hh]
        show _ = nI (if W0 k = h ∧ W1 k = 1 then _ else _)
        rw [if_neg (fun q => c q.2)])
theorem e2_L119 {H mo : Nat} {S M nd st : Nat → Nat} {σ0 : z_M} (hH : H ≤ 8) (hmo : mo ≤ 8) (hM : ∀ h, h < 8 → M h < 256 ∧ (H ≤ h → M h = 0)) (hst : ∀ x, x < 8 → st x ≤ 5) (hS : ∀ h, S h = sN (σ0 19) h) (hnd : ∀ h, nd h = pc (S h) - mo) (eh : σ0 1 0 = nI H) (em : σ0 1 1 = nI mo) : ∀ (r h n : Nat) (σ : z_M) (Y l : Nat → Nat), h + r = H → r < n → (∀ c, c < 106 ∨ 109 < c → σ c = σ0 c) → GW Y M l σ → SH H M st Y l → (∀ j, j < 8 → pc (Y j) = if j < h then nd j else 0) → σ 106 0 = nI (su nd h) → su nd h ≤ 8 * h → (∃ σ', f2_share_L119 n 1 (nI h) σ = some (0, σ') ∧ (∀ c, c < 106 ∨ 109 < c → σ' c = σ0 c) ∧ ∀ X, ¬ AS H M nd st X) ∨ ∃ σ' Y' l', f2_share_L119 n 1 (nI h) σ = f2_share_J188 1 σ' ∧ (∀ c, c < 106 ∨ 109 < c → σ' c = σ0 c) ∧ GW Y' M l' σ' ∧ SH H M st Y' l' ∧ (∀ j, j < 8 → pc (Y' j) = if j < H then nd j else 0) ∧ σ' 106 0 = nI (su nd H) ∧ su nd H ≤ 8 * H
  | 0, h, n, σ, Y, l, h1, h2, hf, hG, hSH, hp, e0, hsu => by
    obtain ⟨n, rfl⟩ : ∃ m, n = m + 1 := ⟨n - 1, by omega⟩
    obtain rfl : h = H := by omega
    right
    refine ⟨σ, Y, l, ?_, hf, hG, hSH, hp, e0, hsu⟩
    unfold f2_share_L119
    rw [hf 1 (by omega), eh, if_neg (nI_nlt (by omega) (by omega))]
  | r + 1, h, n, σ, Y, l, h1, h2, hf, hG, hSH, hp, e0, hsu => by
    obtain ⟨n, rfl⟩ : ∃ m, n = m + 1 := ⟨n - 1, by omega⟩
    have hp8 := pc_le (S h)
    have hnh := hnd h
    have hsures : f0_sures (1 + 17) (nI h) σ = some (nI (pc (S h)), σ) := by
      have := e0_sures (c0 := 18) (h := h) (by omega) σ
      rw [hS h, show sN (σ0 19) h = sN (σ (18 + 1)) h from by rw [hf (18 + 1) (by omega)]]
      exact this
    have hb : f2_share_L119 (n + 1) 1 (nI h) σ = f2_share_L144 (f2_share_L119 n) z_fu 1 (nI h) (nI (pc (S h)) - nI mo) 0 σ := by
      conv => lhs; unfold f2_share_L119
      rw [hf 1 (by omega), eh, if_pos (nI_lt (by omega) (by omega)), hsures, q_bnd, hf 1 (by omega), em]
    have hfill : (∃ σ', f2_share_L144 (f2_share_L119 n) z_fu 1 (nI h) (nI (pc (S h)) - nI mo) 0 σ = some (0, σ') ∧ (∀ c, c < 106 ∨ 109 < c → σ' c = σ c) ∧ ∀ X, ¬ AS H M nd st X) ∨ ∃ σ' Y' l', f2_share_L144 (f2_share_L119 n) z_fu 1 (nI h) (nI (pc (S h)) - nI mo) 0 σ = f2_share_L119 n 1 (nI (h + 1)) σ' ∧ (∀ c, c < 106 ∨ 109 < c → σ' c = σ c) ∧ GW Y' M l' σ' ∧ SH H M st Y' l' ∧ (∀ j, j < 8 → pc (Y' j) = if j < h + 1 then nd j else 0) ∧ σ' 106 0 = nI (su nd h + nd h) := by
      by_cases hc : mo ≤ pc (S h)
      · rw [pk_sub hc, ← hnh]
        exact e2_fills (nd := nd) hH hM hst (h := h) (by omega) (f2_share_L119 n) (nd h) 0 z_fu (su nd h) σ Y l (by omega) (by omega) (by omega) (show nd h < 1000 by omega) hG hSH (fun j hj => by
          rw [hp j hj]
          by_cases e1 : j < h
          · rw [if_pos e1, if_pos e1]
          · rw [if_neg e1, if_neg e1]; split <;> rfl) e0
      · right
        have hneg : ¬ (0 : Int32) < nI (pc (S h)) - nI mo := by
          have h1 : nI (pc (S h)) - nI mo < 0 := pk_sneg (by omega) (by omega)
          rw [Int32.lt_iff_toInt_lt] at h1 ⊢
          omega
        refine ⟨σ, Y, l, ?_, fun _ _ => rfl, hG, hSH, fun j hj => ?_, ?_⟩
        · show f2_share_L144 (f2_share_L119 n) (999 + 1) 1 _ _ _ σ = _
          conv => lhs; unfold f2_share_L144
          unfold f2_share_J182
          rw [if_neg hneg, nI_1]
        · rw [hp j hj]
          by_cases e1 : j < h
          · rw [if_pos e1, if_pos (by omega)]
          · by_cases e2 : j = h
            · rw [if_neg e1, if_pos (by omega), e2]; omega
            · rw [if_neg e1, if_neg (by omega)]
        · rw [show nd h = 0 by omega]; exact e0
    rw [hb]
    rcases hfill with ⟨σ', z1, z2, z3⟩ | ⟨σ1, Y1, l1, z1, z2, z3, z4, z5, z6⟩
    · exact .inl ⟨σ', z1, fun c hc => (z2 c hc).trans (hf c hc), z3⟩
    · rw [z1]
      exact e2_L119 hH hmo hM hst hS hnd eh em r (h + 1) n σ1 Y1 l1 (by omega) (by omega) (fun c hc => (z2 c hc).trans (hf c hc)) z3 z4 z5 z6 (by show su nd h + nd h ≤ _; omega)
theorem e2_L190 {H : Nat} {M nd st : Nat → Nat} {σ0 : z_M} (hH : H ≤ 8) (hM : ∀ h, h < 8 → M h < 256 ∧ (H ≤ h → M h = 0)) (hst : ∀ x, x < 8 → st x ≤ 5) (eh : σ0 1 0 = nI H) : ∀ (r k n : Nat) (σ : z_M) (Y m l g : Nat → Nat), k + r = H → r < n → (∀ c, c < 106 ∨ 109 < c → σ c = σ0 c) → GW Y m l σ → AS H M nd st Y → (∀ x, x < 8 → l x + cnt Y x = st x) → (∀ h, h < k → Y h = g h) → Gr H M nd st k g → (∀ h, h < k → m h = 0) → (∀ h, h < 8 → k ≤ h → m h = M h) → ∃ σ' g', f2_share_L190 n 1 (nI k) σ = some (1, σ') ∧ (∀ c, c < 106 ∨ 109 < c → σ' c = σ0 c) ∧ σ' 106 0 = σ 106 0 ∧ Gr H M nd st H g' ∧ ∀ h, h < H → σ' 107 h = nI (g' h) ∧ g' h < 256
  | 0, k, n, σ, Y, m, l, g, h1, h2, hf, hG, hA, hl, hYg, hGr, hm0, hmM => by
    obtain ⟨n, rfl⟩ : ∃ m, n = m + 1 := ⟨n - 1, by omega⟩
    obtain rfl : k = H := by omega
    refine ⟨σ, g, ?_, hf, rfl, hGr, fun h hh => ?_⟩
    · unfold f2_share_L190
      rw [hf 1 (by omega), eh, if_neg (nI_nlt (by omega) (by omega))]
    · rw [(hG.1 h (by omega)).1, hYg h hh]
      exact ⟨rfl, by rw [← hYg h hh]; exact (hG.1 h (by omega)).2.1⟩
  | r + 1, k, n, σ, Y, m, l, g, h1, h2, hf, hG, hA, hl, hYg, hGr, hm0, hmM => by
    obtain ⟨n, rfl⟩ : ∃ m, n = m + 1 := ⟨n - 1, by omega⟩
    have hex : ∃ s, Fe H M nd st (k + 1) (put g k s) := ⟨Y k, Y, hA, fun h hh => by
      by_cases e : h = k
      · rw [e, put_eq]
      · rw [put_ne e]; exact hYg h (by omega)⟩
    obtain ⟨gk, q1, q2⟩ := pk_least (fun s => Fe H M nd st (k + 1) (put g k s)) hex
    have hg256 : gk < 256 := by
      obtain ⟨X, x1, x2⟩ := q1
      have := x2 k (by omega)
      rw [put_eq] at this
      rw [← this]; exact (x1.1 k (by omega)).1
    obtain ⟨σ1, Y1, m1, l1, z1, z2, z3, z4, z5, z6, z7, z8, z9, z10⟩ := e2_lessL (g := g) hH hM hst (k := k) (by omega) hg256 q1 q2 8 z_fu σ Y m l (Nat.le_refl 8) (by decide) hG hA hl hYg hm0 (fun h hh hk => hmM h hh (by omega)) (fun x => by
      rw [hmM k (by omega) (Nat.le_refl k)]
      by_cases hx : x < 8
      · simp [hx]
      · rw [t_hi (hM k (by omega)).1 (by omega)]; rfl) (fun x hx => by rw [t_hi (hA.1 k (by omega)).1 hx, t_hi hg256 hx])
    have hGr1 : Gr H M nd st (k + 1) (put g k gk) := by
      intro h hh
      by_cases e : h = k
      · subst e
        refine ⟨q1, fun s hs hF => ?_⟩
        rw [put_eq] at hs
        exact q2 s hs (Fe_cong hF (fun i hi => by
          by_cases ei : i = h
          · rw [ei, put_eq, put_eq]
          · rw [put_ne ei, put_ne ei, put_ne ei]))
      · obtain ⟨a1, a2⟩ := hGr h (by omega)
        refine ⟨Fe_cong a1 (fun i hi => put_ne (by omega)), fun s hs hF => ?_⟩
        rw [put_ne e] at hs
        exact a2 s hs (Fe_cong hF (fun i hi => by
          by_cases ei : i = h
          · rw [ei, put_eq, put_eq]
          · rw [put_ne ei, put_ne ei, put_ne (by omega)]))
    obtain ⟨σ', g', y1, y2, y3, y4⟩ := e2_L190 (σ0 := σ0) hH hM hst eh r (k + 1) n σ1 Y1 m1 l1 (put g k gk) (by omega) (by omega) (fun c hc => (z2 c hc).trans (hf c hc)) z4 z5 z6 (fun h hh => by
      by_cases e : h = k
      · rw [e, put_eq]; exact z8
      · rw [put_ne e]; exact z7 h (by omega)) hGr1 z9 (fun h hh hk => z10 h hh (by omega))
    refine ⟨σ', g', ?_, y2, y3.trans z3, y4⟩
    conv => lhs; unfold f2_share_L190
    have z1 : f2_lessen (nI k) σ = some ((), σ1) := z1
    rw [hf 1 (by omega), eh, if_pos (nI_lt (by omega) (by omega)), z1, q_bnd, nI_1]
    exact y1
/-- the class's answer, by the assignments alone -/
theorem e2_share {H mo n : Nat} {S W0 W1 W2 nd st : Nat → Nat} {σ τ : z_M} (hH : H ≤ 8) (hmo : mo ≤ 8) (hst : ∀ x, x < 8 → st x ≤ 5 ∧ σ 2 x = nI (st x)) (hS : ∀ h, S h = sN (σ 19) h) (hS0 : ∀ h, h < 8 → H ≤ h → S h = 0) (hnd : ∀ h, nd h = pc (S h) - mo) (eh : σ 1 0 = nI H) (em : σ 1 1 = nI mo) (hw : WS H n W0 W1 W2 σ τ) : ∃ σ', (∀ c, c < 106 ∨ 109 < c → σ' c = σ c) ∧ ((f2_share 1 σ = some (0, σ') ∧ ∀ X, ¬ AS H (mw S W0 W1 W2 n) nd st X) ∨ (f2_share 1 σ = some (1, σ') ∧ σ' 106 0 = nI (su nd H) ∧ ∃ g, Gr H (mw S W0 W1 W2 n) nd st H g ∧ (∃ X, AS H (mw S W0 W1 W2 n) nd st X) ∧ ∀ h, h < H → σ' 107 h = nI (g h))) := by
  have hS256 : ∀ h, h < 8 → S h < 256 := fun h _ => by rw [hS h]; exact sN_lt _ _
  let σ1 := z_cpy (z_set σ 106 0 0) 2 0 109 0 8
  have f1 : ∀ c, c ≠ 106 → c ≠ 109 → σ1 c = σ c := fun c a b => by
    show z_cpy (z_set σ 106 0 0) 2 0 109 0 8 c = _
    rw [s_cn b, s_ne a]
  have c1 : ∀ x, x < 8 → σ1 109 x = nI (st x) := fun x hx => by
    show z_cpy (z_set σ 106 0 0) 2 0 109 0 (nI 8) 109 x = _
    rw [s_ci hx (by omega), s_ne (by omega)]; exact (hst x hx).2
  have e01 : σ1 106 0 = 0 := by
    show z_cpy (z_set σ 106 0 0) 2 0 109 0 8 106 0 = _
    rw [s_cn (by omega), s_eq]
  obtain ⟨σ2, a1, a2, a3⟩ := e2_L22 (S := S) (σ0 := σ1) (fun h => by rw [f1 19 (by omega) (by omega)]; exact hS h) 8 0 z_fu σ1 (by omega) (by decide) (fun _ _ _ => rfl) (fun h hh => absurd hh (by omega))
  have hw2 : WS H n W0 W1 W2 σ2 τ := by
    unfold WS at hw ⊢
    rw [a2 10 (by omega) (by omega), a2 11 (by omega) (by omega), f1 10 (by omega) (by omega), f1 11 (by omega) (by omega)]
    exact hw
  have hn := hw.1
  obtain ⟨σ3, b1, b2, b3⟩ := e2_L57 (S := S) (σ0 := σ2) hH hS256 hw2 n 0 z_fu σ2 (by omega) (show n < 1000 by omega) (fun _ _ => rfl) (fun h hh => (a3 h hh).2)
  let M := mw S W0 W1 W2 n
  have hM : ∀ h, h < 8 → M h < 256 ∧ (H ≤ h → M h = 0) := fun h hh => ⟨mw_lt (hS256 h hh) n, fun hhH => mw_z (hS0 h hh hhH) n⟩
  have f3 : ∀ c, c < 106 ∨ 109 < c → σ3 c = σ c := fun c hc => by rw [b2 c (by omega), a2 c (by omega) (by omega), f1 c (by omega) (by omega)]
  have f36 : σ3 106 = σ1 106 := by rw [b2 106 (by omega), a2 106 (by omega) (by omega)]
  have hcz : ∀ x, cnt (fun _ => 0) x = 0 := fun x => by
    unfold cnt
    rw [cN_zero]
    intro i _
    exact Nat.zero_testBit x
  have hbegin : f2_share 1 σ = f2_share_L119 z_fu 1 0 σ3 := by
    unfold f2_share
    rw [q_let, q_chk _ (by decide), q_let]
    show f2_share_L22 z_fu 1 0 σ1 = _
    have a1 : f2_share_L22 z_fu 1 0 σ1 = f2_share_J55 1 σ2 := a1
    have b1 : f2_share_J55 1 σ2 = f2_share_J117 1 σ3 := b1
    rw [a1, b1]; rfl
  have hG3 : GW (fun _ => 0) M st σ3 := by
    refine ⟨fun h hh => ⟨?_, (by show 0 < 256; omega), b3 h hh, (hM h hh).1⟩, fun x hx => ⟨?_, by have := (hst x hx).1; omega⟩⟩
    · rw [b2 107 (by omega)]; exact (a3 h hh).1
    · rw [b2 109 (by omega), a2 109 (by omega) (by omega)]; exact c1 x hx
  have hpc0 : pc 0 = 0 := by decide
  rcases e2_L119 (S := S) (M := M) (nd := nd) (st := st) (σ0 := σ) hH hmo hM (fun x hx => (hst x hx).1) hS hnd eh em H 0 z_fu σ3 (fun _ => 0) st (by omega) (show H < 1000 by omega) f3 hG3 ⟨fun h _ => ⟨(by show 0 < 256; omega), fun x hx => by rw [Nat.zero_testBit] at hx; exact absurd hx (by decide)⟩, fun _ _ _ => rfl, fun x hx => by rw [hcz]; rfl⟩ (fun j _ => by rw [if_neg (by omega)]; exact hpc0) (by rw [f36]; exact e01) (Nat.le_refl 0) with ⟨σ', z1, z2, z3⟩ | ⟨σ4, Y4, l4, z1, z2, z3, z4, z5, z6, z7⟩
  · exact ⟨σ', z2, .inl ⟨hbegin.trans z1, z3⟩⟩
  · have hA4 : AS H M nd st Y4 := by
      refine ⟨fun h hh => ⟨(z4.1 h hh).1, fun hhH => z4.2.1 h hh hhH, fun hhH => ⟨(z4.1 h hh).2, by rw [z5 h hh, if_pos hhH]⟩⟩, fun x hx => ?_⟩
      have := z4.2.2 x hx
      omega
    obtain ⟨σ', g, y1, y2, y3, y4, y5⟩ := e2_L190 (σ0 := σ) hH hM (fun x hx => (hst x hx).1) eh H 0 z_fu σ4 Y4 M l4 (fun _ => 0) (by omega) (show H < 1000 by omega) z2 z3 hA4 z4.2.2 (fun h hh => absurd hh (by omega)) (fun h hh => absurd hh (by omega)) (fun h hh => absurd hh (by omega)) (fun _ _ _ => rfl)
    exact ⟨σ', y2, .inr ⟨hbegin.trans (z1.trans y1), by rw [y3]; exact z6, g, y4, ⟨Y4, hA4⟩, fun h hh => (y5 h hh).1⟩⟩
