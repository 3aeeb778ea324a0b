/-! gives -/
theorem e_gives {H h : Nat} {p : Int32} {σ τ : z_M} (hp : p = 0 ∨ (h < H ∧ p = nI (h + 10))) (hR : Rel0 σ τ) (hHl : H ≤ 8) (eh : σ 1 0 = nI H) : ∃ (r : Int32) (σ' τ' : z_M), f11_gives_J17 p σ = some (r, σ') ∧ f12_gives_J28 p τ = some (r, τ') ∧ Rel0 σ' τ' := by
  have hR0 := hR
  obtain ⟨⟨H', hN, hU⟩, hI, hT, hF, hC⟩ := hR
  obtain ⟨g1, g2, g3, g4, g5, g6, g7, g8, g9, g10⟩ := hN
  obtain rfl : H = H' := by
    have := g1.2.1
    rw [eh] at this
    have hl := g1.1
    exact (nI_eq (by omega) (by omega)).mp this
  have hH := g1.1
  obtain ⟨mo, hmo, emo⟩ := g1.2.2.2.1
  have emm : τ 0 7 + 3 = nI mo := by
    have : τ 0 7 = σ 1 1 - 3 := g1.2.2.2.2.1
    rw [this, q_sub_add]; exact emo
  obtain ⟨n, W0, W1, W2, hw⟩ := WS_of (σ := σ) (τ := τ) g6 hH
  let S := fun h => sN (σ 19) h
  let nd := fun h => pc (S h) - mo
  have hst : ∃ st : Nat → Nat, ∀ x, x < 8 → st x ≤ 5 ∧ σ 2 x = nI (st x) ∧ τ 4 x = nI (st x) := by
    refine ⟨fun x => (σ 2 x).toInt.toNat, fun x hx => ?_⟩
    obtain ⟨a, k, hk, b⟩ := g2 x hx
    have b' : σ 2 x = nI k := b
    have a' : τ 4 x = σ 2 x := a
    show (σ 2 x).toInt.toNat ≤ 5 ∧ σ 2 x = nI (σ 2 x).toInt.toNat ∧ τ 4 x = nI (σ 2 x).toInt.toNat
    rw [a', b', nI_toInt (by omega)]
    exact ⟨hk, rfl, rfl⟩
  obtain ⟨st, hst⟩ := hst
  let M := mw S W0 W1 W2 n
  have hS0 : ∀ h, h < 8 → H ≤ h → S h = 0 := fun i hi hHi => by
    apply Nat.eq_of_testBit_eq
    intro x
    show (bN _ 8).testBit x = _
    rw [bN_bit, Nat.zero_testBit]
    by_cases hx : x < 8
    · have e : σ 19 (8 * i + x) = 50 := g10.2.2.2.2.2 i x hHi hi hx
      rw [e]; simp [hx]
    · simp [hx]
  have hM : ∀ h, h < 8 → M h < 256 := fun i hi => mw_lt (sN_lt _ _) n
  have hnd : ∀ i, i < H → nd i ≤ 8 := fun i _ => by
    show pc (S i) - mo ≤ 8
    have : pc (S i) ≤ 8 := cN_le _ 8
    omega
  obtain ⟨τ1, a1, a2, a3⟩ := e12_fL2 (S := S) (nd := nd) (d := σ 19) hH hmo (fun _ => rfl) (fun i hi => (g10.2.2.2.1 i hi).1) (fun _ => rfl) g1.2.2.1 emm hw H 0 z_fu τ (by omega) (show H < 1000 by omega) (fun _ _ _ => rfl) (fun i hi => absurd hi (by omega))
  have hT1 : TK H M nd st (fun _ => 0) 0 τ1 := ⟨by rw [a2 0 (by omega) (by omega)]; exact g1.2.2.1, a3, fun x hx => by rw [a2 4 (by omega) (by omega)]; exact (hst x hx).2.2, fun i hi => absurd hi (by omega)⟩
  have hbeg : f12_gives_J28 p τ = f12_gives_L36 z_fu p 0 0 τ1 := by
    unfold f12_gives_J28
    have a1 : f12_findsNeeds τ = some ((), τ1) := a1
    rw [a1, q_bnd]
  have hfr : ∀ σ' τ', (∀ c, c < 106 ∨ 109 < c → σ' c = σ c) → TF τ1 τ' → Rel0 σ' τ' := by
    intro σ' τ' b c
    have hc : ∀ k, k < 22 ∨ 28 < k → τ' k = τ k := fun k hk => by rw [c k (by omega) (by omega) (by omega) (by omega) (by omega), a2 k (by omega) (by omega)]
    refine Rel0_frame2 hR0 (fun k hk => b k (by omega)) (by rw [b 50 (by omega)]) (by rw [b 51 (by omega)]) (fun k hk => hc k ?_) (fun k _ => by rw [hc 0 (by omega)])
    unfold K_m at hk
    omega
  obtain ⟨σ', b1, b2⟩ := e2_share (S := S) (nd := nd) (st := st) hH hmo (fun x hx => ⟨(hst x hx).1, (hst x hx).2.1⟩) (fun _ => rfl) hS0 (fun _ => rfl) eh emo hw
  have href := e12_gL36 (τ0 := τ1) (p := p) hH hM hnd (fun x hx => (hst x hx).1) H 0 z_fu τ1 (fun _ => 0) (by omega) (show H < 1000 by omega) (fun _ _ _ _ _ _ => rfl) hT1 (fun i hi => absurd hi (by omega)) (fun i hi => absurd hi (by omega)) (.inl rfl)
  have hz : ∀ y, cnt (fun _ => 0) y = 0 := fun y => by
    unfold cnt
    rw [cN_zero]
    intro i _
    exact Nat.zero_testBit y
  rcases b2 with ⟨b2, b3⟩ | ⟨b2, b3, g, b4, ⟨X, b5⟩, b6⟩
  · rcases href with ⟨τ2, c1, c2, c3⟩ | ⟨τ2, g', c1, c2, c3, c4, c5⟩
    · refine ⟨-1, σ', τ2, ?_, hbeg.trans c1, hfr σ' τ2 b1 c2⟩
      unfold f11_gives_J17
      rw [b2, q_bnd, i_00]
    · exfalso
      rcases c5 with q | ⟨X, q⟩
      · refine b3 (fun _ => 0) ⟨fun i _ => ⟨(by show 0 < 256; omega), fun _ => rfl, fun q2 => absurd q2 (by omega)⟩, fun x _ => by rw [hz x]; omega⟩
      · exact b3 X q
  · rcases href with ⟨τ2, c1, c2, c3⟩ | ⟨τ2, g', c1, c2, c3, c4, c5⟩
    · exact absurd b5 (c3 X)
    · have hs := Gr_same b4 c4
      have c1 : f12_gives_L36 z_fu p 0 0 τ1 = f12_gives_J86 p (nI (su nd H)) τ2 := c1
      rcases hp with rfl | ⟨hh, rfl⟩
      · refine ⟨nI (su nd H), σ', τ2, ?_, ?_, hfr σ' τ2 b1 c2⟩
        · unfold f11_gives_J17
          rw [b2, q_bnd, i_10, if_pos rfl, b3]
        · rw [hbeg, c1]
          unfold f12_gives_J86
          rw [if_pos rfl]
      · have hne : ¬ nI (h + 10) = 0 := k_nz (by omega) (by omega)
        have e10 : nI (h + 10) - 10 = nI h := by
          show nI (h + 10) - nI 10 = nI h
          rw [pk_sub (by omega)]; rfl
        refine ⟨nI (g h), σ', τ2, ?_, ?_, hfr σ' τ2 b1 c2⟩
        · unfold f11_gives_J17
          rw [b2, q_bnd, i_10, if_neg hne, e10, k_cin _ (show h < 8 by omega) (by omega), q_ix (by omega), b6 h hh]
        · rw [hbeg, c1]
          unfold f12_gives_J86
          rw [if_neg hne, e10, k_cin _ (show h < 8 by omega) (by omega), q_ix (by omega), c3 h hh, hs h hh]
theorem p_gives0 : p_gives Rel0 := by
  intro p σ τ hR
  replace hR := Rel0_told hR
  unfold f12_gives f11_gives
  rw [q_let]
  generalize z_set τ 0 0 0 = τ at hR ⊢
  have hR0 := hR
  obtain ⟨⟨H, hN, hU⟩, hI, hT, hF, hC⟩ := hR
  obtain ⟨g1, -⟩ := hN
  have hH := g1.1
  have eh : σ 1 0 = nI H := g1.2.1
  have em : τ 0 6 = nI H := g1.2.2.1
  by_cases hp : p = 0
  · rw [if_pos hp, if_pos hp]
    exact e_gives (h := 0) (.inl hp) hR0 hH eh
  · rw [if_neg hp, if_neg hp, em]
    have e9 : (9 : Int32) + nI H = nI (9 + H) := by
      show nI 9 + nI H = _
      rw [nI_add]
    rw [e9]
    by_cases hH0 : H = 0
    · rcases g_house hH (σ := σ) (τ := τ) eh em (p - 10) with ⟨c1, -⟩ | ⟨h, hh, -⟩
      · rw [c1, q_bnd, i_00, e12_isIn]
        have : (if p < 10 then (0 : Int32) else if nI (9 + H) < p then 0 else 1) = 0 := by
          by_cases q1 : p < 10
          · rw [if_pos q1]
          · rw [if_neg q1, if_pos]
            rw [Int32.lt_iff_toInt_lt] at q1 ⊢
            rw [nI_toInt (by omega)]
            have : (10 : Int32).toInt = 10 := rfl
            omega
        rw [this, q_bnd, i_00]
        exact ⟨-1, σ, τ, rfl, rfl, hR0⟩
      · omega
    · rcases g_in p 10 (nI (9 + H)) 10 (9 + H) rfl rfl (by omega) (by omega) τ with ⟨n1, e⟩ | ⟨v, v1, v2, rfl, -, -, e⟩
      · rw [e, q_bnd, i_00]
        rcases g_house hH (σ := σ) (τ := τ) eh em (p - 10) with ⟨c1, -⟩ | ⟨h, hh, c0, -⟩
        · rw [c1, q_bnd, i_00]
          exact ⟨-1, σ, τ, rfl, rfl, hR0⟩
        · exfalso
          have hpn : p = nI (h + 10) := by
            have : p = p - 10 + 10 := (q_sub_add p 10).symm
            rw [this, c0]
            show nI h + nI 10 = _
            rw [nI_add]
          rw [hpn] at n1
          rcases n1 with n1 | ⟨-, n1⟩
          · exact nI_nlt (a := h + 10) (b := 10) (by omega) (by omega) n1
          · exact nI_nlt (a := 9 + H) (b := h + 10) (by omega) (by omega) n1
      · have e10 : nI v - 10 = nI (v - 10) := by
          show nI v - nI 10 = _
          rw [pk_sub (by omega)]
        rw [e, q_bnd, i_10, e10, e11_isHouse, if_neg (nI_pos (by omega)), eh, if_pos (nI_lt (by omega) (by omega)), q_bnd, i_10]
        exact e_gives (h := v - 10) (.inr ⟨by omega, by rw [show v - 10 + 10 = v by omega]⟩) hR0 hH eh
