/-! waters -/
theorem e_hasNo {b h : Nat} {σ : z_M} (hh : h < 8) (h0 : σ (b + 2) h = -1) : f0_hasPot b (nI h) σ = some (0, σ) := by
  rw [e0_hasPot hh, if_pos h0]
theorem e7_bearsEnd {h : Nat} {n v s i : Int32} {f : Nat} {σ : z_M} (hh : h < 8) (h0 : σ 54 h = -1) : f7_bears_L17 (f + 1) 51 (nI h) n v s i σ = some (0, σ) := by
  have e : f0_hasPot 52 (nI h) σ = some (0, σ) := e_hasNo hh h0
  unfold f7_bears_L17 f7_bears_J66
  rw [show z_sb 51 = 52 from rfl]
  by_cases c : i < n
  · rw [if_pos c, e, q_bnd, i_00, e, q_bnd, q_chk _ (by decide)]
  · rw [if_neg c, e, q_bnd, q_chk _ (by decide)]
theorem e12_livesEnd {h n v s i : Int32} {g : Nat} {τ : z_M} : f12_livesBy_L17 (g + 1) h n v s 0 i τ = some (0, z_fl τ 1 0 100 (τ 3)) := by
  unfold f12_livesBy_L17 f12_livesBy_J188
  rw [e12_anew, q_bnd, i_00, q_chk _ (by decide)]
  split <;> rfl
theorem e_bearL {H n h S wv : Nat} (hn : n ≤ 30) (hh : h < 8) (hwv : wv ≤ 40) : ∀ (r i f g W : Nat) (σ τ : z_M), i + r = n → r + 1 < f → r + 1 < g → SA 51 52 σ τ → SB 52 H W σ τ → SG H σ τ → σ 54 h ≠ -1 → ∃ x σ' τ', (x = 0 ∨ x = 1) ∧ f7_bears_L17 f 51 (nI h) (nI n) (nI wv) (nI S) (nI i) σ = some (x, σ') ∧ f12_livesBy_L17 g (nI h) (nI n) (nI wv) (nI S) 1 (nI i) τ = some (x, τ') ∧ (∀ c, c ≠ 48 → c ≠ 49 → c < 52 ∨ 57 < c → σ' c = σ c) ∧ (∀ c, c ≠ 0 → c ≠ 1 → c ≠ 20 → c ≠ 21 → τ' c = τ c) ∧ (∀ k, k ≠ 44 → τ' 0 k = τ 0 k) ∧ ∀ k, k < 100 → τ' 1 k = τ 3 k
  | 0, i, f, g, W, σ, τ, h1, h2, h3, hA, hB, hG, hp => by
    obtain ⟨f, rfl⟩ : ∃ m, f = m + 1 := ⟨f - 1, by omega⟩
    obtain ⟨g, rfl⟩ : ∃ m, g = m + 1 := ⟨g - 1, by omega⟩
    have hp' : ¬ σ (52 + 2) h = -1 := hp
    refine ⟨1, σ, z_fl τ 1 0 100 (τ 3), .inr rfl, ?_, ?_, fun _ _ _ _ => rfl, fun c a1 a2 a3 a4 => fl_ne a2, fun k a => by rw [fl_ne (by omega)], fun k hk => by rw [fl_in (by omega) (by omega), Nat.sub_zero]⟩
    · unfold f7_bears_L17 f7_bears_J66
      rw [if_neg (nI_nlt (by omega) (by omega)), show z_sb 51 = 52 from rfl, e0_hasPot hh, if_neg hp', q_bnd, q_chk _ (by decide)]
    · unfold f12_livesBy_L17 f12_livesBy_J188
      rw [if_neg (nI_nlt (by omega) (by omega)), e12_anew, q_bnd, q_chk _ (by decide)]
  | r + 1, i, f, g, W, σ, τ, h1, h2, h3, hA, hB, hG, hp => by
    obtain ⟨f, rfl⟩ : ∃ m, f = m + 2 := ⟨f - 2, by omega⟩
    obtain ⟨g, rfl⟩ : ∃ m, g = m + 2 := ⟨g - 2, by omega⟩
    have hH := hG.1.1
    have hp' : ¬ σ (52 + 2) h = -1 := hp
    obtain ⟨σ1, τ1, wp, w1, w2, w3, w4, w5⟩ := e_pour (h := h) hA hB hh hp' (show wv ≤ 99 by omega)
    have hA1 := w4.1
    have hB1 := w4.2.1
    have hG1 := SG_fr (.inr rfl) hG w4.2.2
    have hp1 : σ1 (52 + 2) h ≠ -1 := by rw [w5 _ (by omega)]; exact hp'
    obtain ⟨⟨bb1, -⟩, ⟨wk, hwk, ewk⟩, -, c3, c4, -⟩ := (show G_be H W _ _ _ _ _ _ _ from hB1)
    obtain ⟨q1, q2⟩ := c4 h hh
    rcases q2 with q2 | ⟨r1, ⟨t, ht, et⟩, ⟨y, hy1, hy, ey⟩, r4, r5, r6, r7, r8⟩
    · exact absurd q2.1 hp1
    obtain ⟨eD1, D, hD, eD⟩ := c3 (8 * h + t) (by omega)
    obtain ⟨fo, go, o1, o2, o3, o4, o5⟩ := e_obs (b := 52) (.inr rfl) hB1 hh hp1 (G_li_256 hH hG1.2.1) (nI S)
    have eu : z_set (z_fl τ1 20 0 8 go) 20 6 (nI S) = z_fl τ1 20 0 8 (upd go 6 (nI S)) := fl_u (by omega) (by omega)
    obtain ⟨v, x, σa, σ2, τa, τ2, v1, ⟨x1, x2⟩, l1, l2, m1, m2, fa, f2, g2⟩ := e_asked (h := h) hA1 hB1 hG1 (σ1 := z_fl σ1 48 0 8 fo) (τ1 := z_fl τ1 20 0 8 (upd go 6 (nI S))) (fun c a => fl_ne a) (fun c a => fl_ne a) (fun k hk => by
      rw [fl_in (by omega) (by omega), fl_in (by omega) (by omega), Nat.sub_zero]
      by_cases k6 : k = 6
      · rw [k6, o4, pk_us]
      · rw [pk_un k6]; exact o3 k hk k6)
    have hc := e7_growC (s := 51) (b := 52) rfl (.inr rfl) hh ht hD v1 _ o1 l1 l2 fa f2 et ey eD
    have p0 := SP_scr (W := W) (H := H) hA1 hB1 f2 g2
    have p1 := SP_deg (v := D - v) p0.1.1 p0.1.2.1 hH r1 ht (by omega)
    have p := SP_trans p0 p1
    have fr : FR 51 52 σ τ _ _ := FR_trans w4.2.2 p.1.2.2
    have t68 : ∀ τ' : z_M, τ' 1 = τ2 1 → τ' 1 (68 + h) = nI t + 1 := fun τ' q => by rw [q, g2 1 (by omega) (by omega), q1, et]
    have t4 : τ2 1 (4 + (8 * h + t)) + 50 = nI D := by rw [g2 1 (by omega) (by omega), eD1, q_sub_add, eD]
    have t76 : z_set τ2 1 (4 + (8 * h + t)) (nI (D - v) - 50) 1 (76 + h) = nI y := by rw [s_kn (by omega), g2 1 (by omega) (by omega), r6, ey]
    have t0 : τ2 1 0 = nI wk := by rw [g2 1 (by omega) (by omega), bb1, ewk]
    have hm : ∀ z, (if nI y + x < -99 then (-99 : Int32) else if 99 < nI y + x then 99 else nI y + x) = z → f12_livesBy_L17 (g + 2) (nI h) (nI n) (nI wv) (nI S) 1 (nI i) τ = (if z < 1 then f12_livesBy_L17 (g + 1) (nI h) (nI n) (nI wv) (nI S) 0 (nI (i + 1)) (z_set (z_set (z_set (z_set τ2 1 (4 + (8 * h + t)) (nI (D - v) - 50)) 1 (76 + h) z) 1 (92 + h) 0) 1 0 (nI (wk + 1))) else f12_livesBy_L17 (g + 1) (nI h) (nI n) (nI wv) (nI S) 1 (nI (i + 1)) (z_set (z_set (z_set (z_set τ2 1 (4 + (8 * h + t)) (nI (D - v) - 50)) 1 (76 + h) z) 1 (92 + h) 0) 1 0 (nI (wk + 1)))) := by
      intro z hz
      have gr : f12_greater 0 (nI D - nI v) τ2 = some (nI (D - v), τ2) := by rw [e12_greater, (bel_sub hD v1).2]
      conv => lhs; unfold f12_livesBy_L17
      rw [if_pos (nI_lt (by omega) (by omega)), i_10, l_76, l_92, nI_add, nI_add, q_ix (show 76 + h < 2 ^ 31 by omega), q_ix (show 92 + h < 2 ^ 31 by omega), k_cin _ (by omega) (by omega), w2, q_bnd, k_cin _ (by omega) (by omega), q_let, ← w3, o2, q_bnd, q_chk _ (by decide), q_let, show z_ix 6 = 6 from rfl, eu, m1, q_bnd, m2, q_bnd, e12_potOf' hh τ2 (t68 τ2 rfl), q_bnd, e12_potOf' hh τ2 (t68 τ2 rfl), q_bnd, e12_degreeOf hh ht, q_bnd, t4, gr, q_bnd, e12_degreeBe hh ht, q_bnd, k_cin _ (by omega) (by omega), t76, e12_held, q_bnd, hz, k_cin _ (by omega) (by omega), q_let, k_cin _ (by omega) (by omega), q_let, q_chk _ (by decide), q_chk _ (by decide), show z_ix 0 = 0 from rfl, q_let, k_cin _ (by omega) (by omega)]
      rw [s_kn (show 76 + h ≠ 0 by omega), s_kn (show 76 + h ≠ 92 + h by omega), s_eq, s_kn (show 0 ≠ 92 + h by omega), s_kn (show 0 ≠ 76 + h by omega), s_kn (show 0 ≠ 4 + (8 * h + t) by omega), t0, nI_1, nI_1]
    have hcl : ∀ σ3, f7_growPot 51 (nI h) (nI S) σ1 = some ((), σ3) → f7_bears_L17 (f + 2) 51 (nI h) (nI n) (nI wv) (nI S) (nI i) σ = f7_bears_L17 (f + 1) 51 (nI h) (nI n) (nI wv) (nI S) (nI (i + 1)) (z_set σ3 52 6 (σ3 52 6 + 1)) := by
      intro σ3 e
      conv => lhs; unfold f7_bears_L17
      rw [if_pos (nI_lt (by omega) (by omega)), show z_sb 51 = 52 from rfl, e0_hasPot hh, if_neg hp', q_bnd, i_10, w1, q_bnd, e, q_bnd, q_let, nI_1]
    rcases hgt hy1 hy x1 x2 with ⟨a1, a2, a3⟩ | ⟨a1, z, z1, z2, a2, a3, a4⟩
    · rw [if_pos a1, a2] at hc
      obtain ⟨σ3, τ3, e1, -, e3, -, e5⟩ := e_lose2 (h := h) (σ := z_set (z_set (z_set σ2 (52 + 1) (8 * h + t) (nI (D - v))) (52 + 3) h (nI y + x)) (52 + 5) h 0) (τ := z_set (z_set (z_set τ2 1 (4 + (8 * h + t)) (nI (D - v) - 50)) 1 (76 + h) (nI y + x)) 1 (92 + h) 0) (SA_cong p1.1.1 (by simp (disch := omega) only [s_ne]) (by simp (disch := omega) only [s_ne]) (by simp (disch := omega) only [s_ne]) (by simp (disch := omega) only [s_ne]) (by simp (disch := omega) only [s_ne])) p1.1.2.1 hh (fun c a b => by rw [s_ne b, s_ne a]) (fun k a => ⟨by rw [s_ne (by omega), s_kn a], by rw [s_kn a, s_ne (by omega)]⟩) (fun c a => by rw [s_ne a, s_ne a]) (fun k a b => by rw [s_kn b, s_kn a]) 2
      rw [e1] at hc
      rw [hcl σ3 hc, hm _ a3, if_pos a1]
      have e5' : z_set σ3 52 6 (σ3 52 6 + 1) 54 h = -1 := by rw [s_ne (by omega)]; exact e5
      have fr3 := FR_trans fr e3.2.2
      refine ⟨0, z_set σ3 52 6 (σ3 52 6 + 1), _, .inl rfl, e7_bearsEnd hh e5', e12_livesEnd, fun c a b d => ?_, fun c b1 b2 b3 b4 => ?_, fun k a => ?_, fun k hk => ?_⟩
      · rw [s_ne (by omega)]
        by_cases c17 : c = 17
        · rw [c17]; exact (fr3.2.1 rfl).1
        · exact fr3.1 c (by omega) c17 a b
      · rw [fl_ne b2, s_ne b2, s_ne b2, s_ne b2]
        by_cases c6 : c = 6
        · rw [c6]; exact (fr.2.1 rfl).2
        · exact fr.2.2.1 c b1 b2 c6 b3 b4
      · rw [fl_ne (by omega), s_ne (by omega), s_ne (by omega), s_ne (by omega)]; exact fr.2.2.2 k a
      · rw [fl_in (by omega) (by omega), Nat.sub_zero, s_ne (by omega), s_ne (by omega), s_ne (by omega)]
        rw [fr.2.2.1 3 (by omega) (by omega) (by omega) (by omega) (by omega)]
    · rw [if_neg a1, a2] at hc
      rw [hcl _ hc, hm _ a3, if_neg a4]
      have hp2 : z_set σ2 (52 + 1) (8 * h + t) (nI (D - v)) (52 + 2) h ≠ -1 := by
        rw [s_ne (by omega), f2 _ (by omega) (by omega)]; exact hp1
      have gg := G_be_hw (x := z) (w := 0) p1.1.2.1 hh hp2 z1 z2 (by omega)
      have gw := G_be_week (w := wk + 1) (W' := W + 1) gg (by omega)
      have s6 : z_set (z_set (z_set σ2 (52 + 1) (8 * h + t) (nI (D - v))) (52 + 3) h (nI z)) (52 + 5) h 0 52 6 = nI wk := by
        rw [s_ne (by omega), s_ne (by omega), s_ne (by omega), f2 _ (by omega) (by omega)]; exact ewk
      rw [s6, nI_1]
      let σ4 := z_set (z_set (z_set (z_set σ2 (52 + 1) (8 * h + t) (nI (D - v))) (52 + 3) h (nI z)) (52 + 5) h 0) 52 6 (nI (wk + 1))
      let τ4 := z_set (z_set (z_set (z_set τ2 1 (4 + (8 * h + t)) (nI (D - v) - 50)) 1 (76 + h) (nI z)) 1 (92 + h) 0) 1 0 (nI (wk + 1))
      have k1 : ∀ c, c < 52 ∨ 57 < c → σ4 c = z_set σ2 (52 + 1) (8 * h + t) (nI (D - v)) c := fun c hc => by
        show z_set (z_set (z_set (z_set σ2 (52 + 1) (8 * h + t) (nI (D - v))) (52 + 3) h (nI z)) (52 + 5) h 0) 52 6 (nI (wk + 1)) c = _
        rw [s_ne (by omega), s_ne (by omega), s_ne (by omega)]
      have k2 : ∀ c, c ≠ 1 → τ4 c = z_set τ2 1 (4 + (8 * h + t)) (nI (D - v) - 50) c := fun c hc => by
        show z_set (z_set (z_set (z_set τ2 1 (4 + (8 * h + t)) (nI (D - v) - 50)) 1 (76 + h) (nI z)) 1 (92 + h) 0) 1 0 (nI (wk + 1)) c = _
        rw [s_ne hc, s_ne hc, s_ne hc]
      have fr4 : FR 51 52 σ τ σ4 τ4 := by
        refine FR_trans fr ⟨fun c b1 _ _ _ => k1 c (by omega), fun _ => ⟨k1 17 (by omega), k2 6 (by omega)⟩, fun c _ b2 _ _ _ => k2 c b2, fun k _ => by rw [k2 0 (by omega)]⟩
      have hA4 : SA 51 52 σ4 τ4 := SA_cong p1.1.1 (k1 50 (by omega)) (k1 51 (by omega)) (k1 17 (by omega)) (by rw [k2 0 (by omega)]) (k2 6 (by omega))
      have hB4 : SB 52 H (W + 1) σ4 τ4 := by
        unfold SB
        show G_be H (W + 1) (z_set (z_set (z_set (z_set σ2 (52 + 1) (8 * h + t) (nI (D - v))) (52 + 3) h (nI z)) (52 + 5) h 0) 52 6 (nI (wk + 1)) 52) (z_set (z_set (z_set (z_set σ2 (52 + 1) (8 * h + t) (nI (D - v))) (52 + 3) h (nI z)) (52 + 5) h 0) 52 6 (nI (wk + 1)) (52 + 1)) (z_set (z_set (z_set (z_set σ2 (52 + 1) (8 * h + t) (nI (D - v))) (52 + 3) h (nI z)) (52 + 5) h 0) 52 6 (nI (wk + 1)) (52 + 2)) (z_set (z_set (z_set (z_set σ2 (52 + 1) (8 * h + t) (nI (D - v))) (52 + 3) h (nI z)) (52 + 5) h 0) 52 6 (nI (wk + 1)) (52 + 3)) (z_set (z_set (z_set (z_set σ2 (52 + 1) (8 * h + t) (nI (D - v))) (52 + 3) h (nI z)) (52 + 5) h 0) 52 6 (nI (wk + 1)) (52 + 4)) (z_set (z_set (z_set (z_set σ2 (52 + 1) (8 * h + t) (nI (D - v))) (52 + 3) h (nI z)) (52 + 5) h 0) 52 6 (nI (wk + 1)) (52 + 5)) (z_set (z_set (z_set (z_set τ2 1 (4 + (8 * h + t)) (nI (D - v) - 50)) 1 (76 + h) (nI z)) 1 (92 + h) 0) 1 0 (nI (wk + 1)) 1)
        simp (disch := omega) only [s_ne, s_up]
        simp (disch := omega) only [s_ne, s_up] at gw
        exact gw
      have hp4 : σ4 54 h ≠ -1 := by
        show z_set (z_set (z_set (z_set σ2 (52 + 1) (8 * h + t) (nI (D - v))) (52 + 3) h (nI z)) (52 + 5) h 0) 52 6 (nI (wk + 1)) 54 h ≠ -1
        rw [s_ne (by omega), s_ne (by omega), s_ne (by omega)]; exact hp2
      obtain ⟨xx, σ', τ', y0, y1, y2, y3, y4, y5, y6⟩ := e_bearL hn hh hwv r (i + 1) (f + 1) (g + 1) (W + 1) σ4 τ4 (by omega) (by omega) (by omega) hA4 hB4 (SG_fr (.inr rfl) hG fr4) hp4
      refine ⟨xx, σ', τ', y0, y1, y2, fun c a b d => (y3 c a b d).trans ?_, fun c b1 b2 b3 b4 => (y4 c b1 b2 b3 b4).trans ?_, fun k a => (y5 k a).trans (fr4.2.2.2 k a), fun k hk => (y6 k hk).trans ?_⟩
      · by_cases c17 : c = 17
        · rw [c17]; exact (fr4.2.1 rfl).1
        · exact fr4.1 c (by omega) c17 a b
      · by_cases c6 : c = 6
        · rw [c6]; exact (fr4.2.1 rfl).2
        · exact fr4.2.2.1 c b1 b2 c6 b3 b4
      · rw [fr4.2.2.1 3 (by omega) (by omega) (by omega) (by omega) (by omega)]
/-- memories that differ from σ0 in the scratch of a thought alone -/
def DC (σ0 σ : z_M) : Prop := ∀ c, c ≠ 48 → c ≠ 49 → c < 52 ∨ 57 < c → σ c = σ0 c
def DM (τ1 τ : z_M) : Prop := (∀ c, c ≠ 0 → c ≠ 1 → c ≠ 20 → c ≠ 21 → τ c = τ1 c) ∧ (∀ k, k ≠ 44 → τ 0 k = τ1 0 k) ∧ ∀ k, k < 100 → τ 1 k = τ1 1 k
theorem e_bears {H n h wv : Nat} {σ0 τ0 τ1 : z_M} (hB : SB 18 H 999 σ0 τ0) (hG : SG H σ0 τ0) (h51 : σ0 51 3 = 0) (e5 : τ1 0 5 = 1) (f0 : ∀ k, k ≠ 5 → k ≠ 44 → τ1 0 k = τ0 0 k) (f1 : ∀ k, k < 100 → τ1 1 k = τ0 1 k) (f2 : ∀ c, c ≠ 0 → c ≠ 1 → c ≠ 3 → c ≠ 20 → c ≠ 21 → τ1 c = τ0 c) (f3 : ∀ k, k < 100 → τ1 3 k = τ0 1 k) (hn : n ≤ 30) (hh : h < 8) (hwv : wv ≤ 40) (hp : σ0 20 h ≠ -1) {σ τ : z_M} (hσ : DC σ0 σ) (hτ : DM τ1 τ) : ∃ x σ' τ', (x = 0 ∨ x = 1) ∧ f7_bears 51 (nI h) (nI n) (nI wv) σ = some (x, σ') ∧ f12_livesBy (nI h) (nI n) (nI wv) τ = some (x, τ') ∧ DC σ0 σ' ∧ DM τ1 τ' := by
  obtain ⟨d1, d2, d3⟩ := hτ
  have q : ∀ c, c ≤ 23 → σ c = σ0 c := fun c hc => hσ c (by omega) (by omega) (by omega)
  have hB' : SB 18 H 999 σ τ0 := by
    unfold SB
    rw [q 18 (by omega), q (18 + 1) (by omega), q (18 + 2) (by omega), q (18 + 3) (by omega), q (18 + 4) (by omega), q (18 + 5) (by omega)]
    exact hB
  have hG' : SG H σ τ0 := by
    obtain ⟨g1, g2, g3, g4, g5⟩ := hG
    refine ⟨?_, ?_, ?_, LG_cong g4 (fun c a b => q c (by omega)) (fun c a b => rfl), ?_⟩
    · rw [q 1 (by omega)]; exact g1
    · rw [q 3 (by omega)]; exact g2
    · rw [q 4 (by omega), q 5 (by omega)]; exact g3
    · rw [q 13 (by omega), q 14 (by omega)]; exact g5
  obtain ⟨σ1, a1, a2, a3, a4, a5, a6, a7⟩ := e_asleep (τ' := τ) hB' hG' (by rw [hσ 51 (by omega) (by omega) (by omega)]; exact h51) (by rw [d2 5 (by omega)]; exact e5) (fun k a b => (d2 k b).trans (f0 k a b)) (fun k hk => (d3 k hk).trans (f1 k hk)) (fun c b1 b2 b3 b4 b5 => (d1 c b1 b2 b4 b5).trans (f2 c b1 b2 b3 b4 b5))
  have hd : ∀ i, i < 64 → τ 1 (4 + i) = σ1 (52 + 1) i - 50 := fun i hi => (a4.2.2.2.1 i hi).1
  have hp1 : σ1 54 h ≠ -1 := by rw [a6 h hh, q 20 (by omega)]; exact hp
  obtain ⟨x, σ', τ', y0, y1, y2, y3, y4, y5, y6⟩ := e_bearL (S := pc (sN (σ1 (52 + 1)) h)) hn hh hwv n 0 z_fu z_fu 999 σ1 τ (by omega) (show n + 1 < 1000 by omega) (show n + 1 < 1000 by omega) a3 a4 a5 hp1
  refine ⟨x, σ', τ', y0, ?_, ?_, fun c b1 b2 b3 => ?_, fun c b1 b2 b3 b4 => ?_, fun k a => ?_, fun k hk => ?_⟩
  · unfold f7_bears
    rw [a1, q_bnd, show z_sb 51 = 52 from rfl, e0_sures hh, q_bnd]
    exact y1
  · unfold f12_livesBy
    rw [e12_suresOf hh τ hd, q_bnd, e12_onesOf (sN_lt _ _), q_bnd]
    exact y2
  · rw [y3 c b1 b2 b3, a2 c b3]; exact hσ c b1 b2 b3
  · rw [y4 c b1 b2 b3 b4]; exact d1 c b1 b2 b3 b4
  · rw [y5 k a]; exact d2 k a
  · rw [y6 k hk, d1 3 (by omega) (by omega) (by omega) (by omega), f3 k hk, f1 k hk]
def bgL (L : Nat → Int32) : Nat → Int32
  | 0 => -1
  | k + 1 => if L k = 0 then bgL L k else nI k
def smL (L : Nat → Int32) : Nat → Nat → Int32
  | 0, _ => -1
  | r + 1, i => if L i = 0 then smL L r (i + 1) else nI i
def laL (L : Nat → Int32) : Nat → Nat → Int32 → Int32
  | 0, _, v => v
  | r + 1, i, v => laL L r (i + 1) (if L i = 0 then v else nI i)
theorem la_bg (L : Nat → Int32) : ∀ r i, laL L r i (bgL L i) = bgL L (i + r)
  | 0, i => rfl
  | r + 1, i => by
    have := la_bg L r (i + 1)
    unfold laL
    rw [show i + (r + 1) = i + 1 + r by omega, ← this]
    rfl
theorem e11_w0 {h n : Int32} {σ0 : z_M} {L : Nat → Int32} (hL : ∀ w, w ≤ 40 → ∀ σ, DC σ0 σ → ∃ σ', f7_bears 51 h n (nI w) σ = some (L w, σ') ∧ DC σ0 σ') : ∀ (r i f : Nat) (σ : z_M), i + r = 41 → r < f → DC σ0 σ → ∃ σ', f11_waters_L47 f h n 0 (nI i) σ = some (smL L r i, σ') ∧ DC σ0 σ'
  | 0, i, f, σ, h1, h2, hσ => by
    obtain ⟨f, rfl⟩ : ∃ m, f = m + 1 := ⟨f - 1, by omega⟩
    have c : (40 : Int32) < nI i := nI_lt (a := 40) (by omega) (by omega)
    refine ⟨σ, ?_, hσ⟩
    unfold f11_waters_L47
    rw [if_pos c]; rfl
  | r + 1, i, f, σ, h1, h2, hσ => by
    obtain ⟨f, rfl⟩ : ∃ m, f = m + 1 := ⟨f - 1, by omega⟩
    have c : ¬ (40 : Int32) < nI i := nI_nlt (a := 40) (by omega) (by omega)
    obtain ⟨σ1, a1, a2⟩ := hL i (by omega) σ hσ
    unfold f11_waters_L47 f11_waters_J68 smL
    rw [if_neg c, if_pos rfl, a1, q_bnd, nI_1]
    by_cases hz : L i = 0
    · rw [if_pos hz, if_pos hz]
      exact e11_w0 hL r (i + 1) f σ1 (by omega) (by omega) a2
    · rw [if_neg hz, if_neg hz]
      exact ⟨σ1, rfl, a2⟩
theorem e11_w1 {h n : Int32} {σ0 : z_M} {L : Nat → Int32} (hL : ∀ w, w ≤ 40 → ∀ σ, DC σ0 σ → ∃ σ', f7_bears 51 h n (nI w) σ = some (L w, σ') ∧ DC σ0 σ') : ∀ (r i f : Nat) (σ : z_M), i + r = 41 → r < f → DC σ0 σ → ∃ σ', f11_waters_L47 f h n 1 (nI i) σ = some (bgL L r, σ') ∧ DC σ0 σ'
  | 0, i, f, σ, h1, h2, hσ => by
    obtain ⟨f, rfl⟩ : ∃ m, f = m + 1 := ⟨f - 1, by omega⟩
    have c : (40 : Int32) < nI i := nI_lt (a := 40) (by omega) (by omega)
    refine ⟨σ, ?_, hσ⟩
    unfold f11_waters_L47
    rw [if_pos c]; rfl
  | r + 1, i, f, σ, h1, h2, hσ => by
    obtain ⟨f, rfl⟩ : ∃ m, f = m + 1 := ⟨f - 1, by omega⟩
    have c : ¬ (40 : Int32) < nI i := nI_nlt (a := 40) (by omega) (by omega)
    have e : (40 : Int32) - nI i = nI r := by rw [l_40, pk_sub (by omega), show 40 - i = r by omega]
    obtain ⟨σ1, a1, a2⟩ := hL r (by omega) σ hσ
    unfold f11_waters_L47 f11_waters_J68 bgL
    rw [if_neg c, i_10, e, a1, q_bnd, nI_1]
    by_cases hz : L r = 0
    · rw [if_pos hz, if_pos hz]
      exact e11_w1 hL r (i + 1) f σ1 (by omega) (by omega) a2
    · rw [if_neg hz, if_neg hz]
      exact ⟨σ1, rfl, a2⟩
theorem e12_w {h n p : Int32} {τ1 : z_M} {L : Nat → Int32} (hL : ∀ w, w ≤ 40 → ∀ τ, DM τ1 τ → ∃ τ', f12_livesBy h n (nI w) τ = some (L w, τ') ∧ DM τ1 τ') : ∀ (r i f : Nat) (u v : Int32) (τ : z_M), i + r = 41 → r < f → DM τ1 τ → ∃ τ', f12_waters_L58 f h n p u v (nI i) τ = f12_waters_J99 p (if u = -1 then smL L r i else u) (laL L r i v) τ' ∧ DM τ1 τ'
  | 0, i, f, u, v, τ, h1, h2, hτ => by
    obtain ⟨f, rfl⟩ : ∃ m, f = m + 1 := ⟨f - 1, by omega⟩
    have c : (40 : Int32) < nI i := nI_lt (a := 40) (by omega) (by omega)
    refine ⟨τ, ?_, hτ⟩
    unfold f12_waters_L58
    rw [if_pos c]
    have : (if u = -1 then smL L 0 i else u) = u := by
      split
      · rename_i q; rw [q]; rfl
      · rfl
    rw [this]; rfl
  | r + 1, i, f, u, v, τ, h1, h2, hτ => by
    obtain ⟨f, rfl⟩ : ∃ m, f = m + 1 := ⟨f - 1, by omega⟩
    have c : ¬ (40 : Int32) < nI i := nI_nlt (a := 40) (by omega) (by omega)
    obtain ⟨τ2, a1, a2⟩ := hL i (by omega) τ hτ
    unfold f12_waters_L58 f12_waters_J89 smL laL
    rw [if_neg c, a1, q_bnd, nI_1]
    by_cases hz : L i = 0
    · rw [if_pos hz, if_pos hz, if_pos hz]
      exact e12_w hL r (i + 1) f u v τ2 (by omega) (by omega) a2
    · rw [if_neg hz, if_neg hz, if_neg hz]
      by_cases hu : u = -1
      · rw [if_pos hu, if_pos hu]
        obtain ⟨τ', b1, b2⟩ := e12_w hL r (i + 1) f (nI i) (nI i) τ2 (by omega) (by omega) a2 (p := p)
        rw [if_neg (q_neg (by omega))] at b1
        exact ⟨τ', b1, b2⟩
      · rw [if_neg hu, if_neg hu]
        obtain ⟨τ', b1, b2⟩ := e12_w hL r (i + 1) f u (nI i) τ2 (by omega) (by omega) a2 (p := p)
        rw [if_neg hu] at b1
        exact ⟨τ', b1, b2⟩
theorem p_waters0 : p_waters Rel0 := by
  intro p1 p2 p3 σ τ hR
  replace hR := Rel0_told hR
  unfold f12_waters f11_waters
  rw [q_let]
  generalize z_set τ 0 0 0 = τ at hR ⊢
  have hR0 := hR
  obtain ⟨⟨H, hN, hU⟩, hI, hT, hF, hC⟩ := hR
  have hG := R_now_SG hN
  obtain ⟨g1, g2, g3, g4, g5, g6, g7, g8, g9, g10⟩ := hN
  have hH := g1.1
  rcases g_house hH (σ := σ) (τ := τ) g1.2.1 g1.2.2.1 p1 with ⟨c1, c2⟩ | ⟨h, hh, rfl, c1, c2⟩
  · rw [c1, c2]; exact ⟨-1, σ, τ, rfl, rfl, hR0⟩
  have hv := (g10.2.2.2.2.1 h (by omega)).1
  rw [c1, c2, q_bnd, q_bnd, i_10, i_10, e12_potOf' (by omega) τ hv, q_bnd]
  by_cases hp : σ 20 h = -1
  · have hp1 : σ (18 + 2) h = -1 := hp
    have hp2 : σ (1 + 19) h = -1 := hp
    rw [if_pos hp2, e_hasNo (by omega) hp1]
    refine ⟨-1, σ, τ, ?_, rfl, hR0⟩
    rw [q_bnd, i_00]
    simp only [ite_self]
  have hp1 : ¬ σ (18 + 2) h = -1 := hp
  have hp2 : ¬ σ (1 + 19) h = -1 := hp
  rw [if_neg hp2]
  rcases g_in p2 1 30 1 30 rfl rfl (by omega) (by omega) τ with ⟨n1 | ⟨n1, n2⟩, e⟩ | ⟨n, hn1, hn, rfl, n1, n2, e⟩
  · rw [if_pos n1, e]; exact ⟨-1, σ, τ, rfl, rfl, hR0⟩
  · rw [if_neg n1, if_pos n2, e]; exact ⟨-1, σ, τ, rfl, rfl, hR0⟩
  rw [if_neg n1, if_neg n2, e, q_bnd, i_10]
  rcases g_in p3 0 1 0 1 rfl rfl (by omega) (by omega) τ with ⟨n1 | ⟨n1, n2⟩, e⟩ | ⟨y, -, hy, rfl, n1, n2, e⟩
  · rw [if_pos n1, e]; exact ⟨-1, σ, τ, rfl, rfl, hR0⟩
  · rw [if_neg n1, if_pos n2, e]; exact ⟨-1, σ, τ, rfl, rfl, hR0⟩
  rw [if_neg n1, if_neg n2, e, q_bnd, i_10, e12_thinks, q_bnd, e0_hasPot (by omega), if_neg hp1, q_bnd, i_10]
  let τ1 := z_set (z_fl τ 3 0 100 (τ 1)) 0 5 1
  have t3 : ∀ k, k < 100 → τ1 3 k = τ 1 k := fun k hk => by
    show z_set _ 0 5 1 3 k = _
    rw [s_ne (by omega), fl_in (by omega) (by omega), Nat.sub_zero]
  have t1 : ∀ k, k < 100 → τ1 1 k = τ 1 k := fun k hk => by
    show z_set _ 0 5 1 1 k = _
    rw [s_ne (by omega), fl_ne (by omega)]
  have t0 : ∀ k, k ≠ 5 → τ1 0 k = τ 0 k := fun k hk => by
    show z_set _ 0 5 1 0 k = _
    rw [s_kn hk, fl_ne (by omega)]
  have tc : ∀ c, c ≠ 0 → c ≠ 3 → τ1 c = τ c := fun c a b => by
    show z_set _ 0 5 1 c = _
    rw [s_ne a, fl_ne b]
  have key : ∀ w, w ≤ 40 → ∀ σ2 τ2, DC σ σ2 → DM τ1 τ2 → ∃ x σ' τ', (x = 0 ∨ x = 1) ∧ f7_bears 51 (nI h) (nI n) (nI w) σ2 = some (x, σ') ∧ f12_livesBy (nI h) (nI n) (nI w) τ2 = some (x, τ') ∧ DC σ σ' ∧ DM τ1 τ' := fun w hw σ2 τ2 a b => e_bears (σ0 := σ) (τ0 := τ) (τ1 := τ1) g10 hG hC.2.1 s_eq (fun k q _ => t0 k q) t1 (fun c q1 _ q3 _ _ => tc c q1 q3) t3 hn (by omega) hw hp a b
  have c0 : DC σ σ := fun _ _ _ _ => rfl
  have m0 : DM τ1 τ1 := ⟨fun _ _ _ _ _ => rfl, fun _ _ => rfl, fun _ _ => rfl⟩
  let L : Nat → Int32 := fun w => match f12_livesBy (nI h) (nI n) (nI w) τ1 with
    | some (x, _) => x
    | none => 0
  have L1 : ∀ w, w ≤ 40 → ∀ σ2, DC σ σ2 → ∃ σ', f7_bears 51 (nI h) (nI n) (nI w) σ2 = some (L w, σ') ∧ DC σ σ' := by
    intro w hw σ2 a
    obtain ⟨x, σ', τ', -, q1, q2, q3, -⟩ := key w hw σ2 τ1 a m0
    have : L w = x := by show (match f12_livesBy (nI h) (nI n) (nI w) τ1 with | some (x, _) => x | none => 0) = x; rw [q2]
    rw [this]
    exact ⟨σ', q1, q3⟩
  have L2 : ∀ w, w ≤ 40 → ∀ τ2, DM τ1 τ2 → ∃ τ', f12_livesBy (nI h) (nI n) (nI w) τ2 = some (L w, τ') ∧ DM τ1 τ' := by
    intro w hw τ2 a
    obtain ⟨x, σ', τ', -, q1, q2, -, q4⟩ := key w hw σ τ2 c0 a
    obtain ⟨σ'', r1, -⟩ := L1 w hw σ c0
    have : L w = x := by rw [r1] at q1; exact (Prod.mk.inj (Option.some.inj q1)).1
    rw [this]
    exact ⟨τ', q2, q4⟩
  obtain ⟨τ', b1, b2⟩ := e12_w (p := nI y) L2 41 0 z_fu (-1) (-1) τ1 (by omega) (by decide) m0
  have b1 : f12_waters_L58 z_fu (nI h) (nI n) (nI y) (-1) (-1) 0 τ1 = f12_waters_J99 (nI y) (smL L 41 0) (bgL L 41) τ' := by
    rw [if_pos rfl, show laL L 41 0 (-1) = bgL L 41 from la_bg L 41 0] at b1
    exact b1
  have fin : ∀ σ', DC σ σ' → Rel0 σ' (z_set (z_fl τ' 1 0 100 (τ' 3)) 0 5 0) := by
    intro σ' a
    obtain ⟨d1, d2, d3⟩ := b2
    refine Rel0_dream hR0 a (fun c q1 q2 q3 q4 q5 => ?_) (fun k hk => ?_) (fun k hk => ?_)
    · rw [s_ne q1, fl_ne q2, d1 c q1 q2 q4 q5, tc c q1 q3]
    · rw [s_ne (by omega), fl_in (by omega) (by omega), Nat.sub_zero, d1 3 (by omega) (by omega) (by omega) (by omega), t3 k hk]
    · by_cases k5 : k = 5
      · rw [k5, s_eq]; exact hC.2.2.1.symm
      · rw [s_kn k5, fl_ne (by omega), d2 k hk, t0 k k5]
  have hJ : ∀ u v, f12_waters_J99 (nI y) u v τ' = some (if nI y = 0 then u else v, z_set (z_fl τ' 1 0 100 (τ' 3)) 0 5 0) := by
    intro u v
    unfold f12_waters_J99 f12_endsThought
    rw [e12_anew, q_bnd, q_let, q_bnd]
    split <;> rfl
  rcases (show y = 0 ∨ y = 1 by omega) with rfl | rfl
  · obtain ⟨σ', a1, a2⟩ := e11_w0 L1 41 0 z_fu σ (by omega) (by decide) c0
    refine ⟨smL L 41 0, σ', _, a1, ?_, fin σ' a2⟩
    show f12_waters_L58 z_fu (nI h) (nI n) (nI 0) (-1) (-1) 0 τ1 = _
    rw [b1, hJ, if_pos nI_0]
  · obtain ⟨σ', a1, a2⟩ := e11_w1 L1 41 0 z_fu σ (by omega) (by decide) c0
    refine ⟨bgL L 41, σ', _, a1, ?_, fin σ' a2⟩
    show f12_waters_L58 z_fu (nI h) (nI n) (nI 1) (-1) (-1) 0 τ1 = _
    rw [b1, hJ, if_neg (by decide)]
