/-! text -/
theorem z_bid {α : Type} (m : Option (α × z_M)) : (z_bnd m fun r s => some (r, s)) = m := by
  rcases m with _ | ⟨r, s⟩ <;> rfl
/-- what both hold when the first token has been read -/
def T0 (p n N : Nat) (b P : Nat → Nat) (K V L : Nat → Int32) (H : Nat) (σ τ σ6 τ3 : z_M) : Prop := TkB n b N P K V L ∧ H ≤ 8 ∧ σ 1 0 = nI H ∧ Bo n N b P K V L 0 σ6 τ3 ∧ (σ6 101 3 = -1 ∧ σ6 101 6 = (if p = 2 then 12 else 16) ∧ σ6 102 2 = 0 ∧ σ6 102 3 = 0 ∧ σ6 101 5 = nI H) ∧ (τ3 0 6 = nI H ∧ τ3 0 28 = 0 ∧ τ3 0 29 = 0 ∧ τ3 0 27 = nI p ∧ τ3 0 34 = 0 ∧ τ3 0 35 = -1) ∧ (∀ c, c ≤ 95 → σ6 c = σ c) ∧ XW τ τ3
def rdr (p : Nat) (τ : z_M) : Option (Int32 × z_M) := if p = 0 then f12_readReasons τ else if p = 2 then f12_readWorks τ else if p = 3 then f12_readPlan τ else f12_readLaw τ
theorem t_start {p : Nat} {σ τ : z_M} (hR : Rel0 σ τ) (hp : p ≤ 3) : ∃ n N b P K V L H σ6 τ3, T0 p n N b P K V L H σ τ σ6 τ3 ∧ f3_read (nI p) (σ 1 0) σ = f3_read_L63 z_fu (nI p) 0 σ6 ∧ f12_text (nI p) τ = z_bnd (rdr p τ3) fun r9 σ10 => if r9 = -1 then f12_text_J69 (nI p) r9 (z_set (z_set σ10 0 34 (σ10 0 32)) 0 35 (σ10 0 33)) else f12_text_J69 (nI p) r9 σ10 := by
  obtain ⟨⟨H, hN, -⟩, -, ⟨n, n1, n2, n3, n4⟩, -, hC⟩ := hR
  have hH : H ≤ 8 := hN.1.1
  have eh : σ 1 0 = nI H := hN.1.2.1
  have ehm : τ 0 6 = nI H := hN.1.2.2.1
  have hby : ∀ k, k < n → (τ 7 k).toInt.toNat < 256 ∧ τ 7 k = nI (τ 7 k).toInt.toNat ∧ σ 97 k = cb (τ 7 k).toInt.toNat := fun k hk => by
    obtain ⟨y, y1, y2, y3⟩ := n4 k hk
    have e : (τ 7 k).toInt.toNat = y := by rw [y2, nI_toInt (by omega)]; rfl
    rw [e]
    exact ⟨y1, y2, y3⟩
  let s : Int32 := if p = 2 then 12 else 16
  let σd : z_M := z_set (z_set (z_set (z_set (z_set (z_set (z_set (z_set σ 101 2 0) 101 3 (-1)) 101 5 (σ 1 0)) 101 6 s) 101 4 0) 102 2 0) 102 3 0) 96 5 0
  have hTC : TC n (fun k => (τ 7 k).toInt.toNat) σd := ⟨n1, n2, fun k hk => ⟨(hby k hk).1, (hby k hk).2.2⟩⟩
  obtain ⟨σ6, N, P, c1, c2, -, -, c4, c5, c6⟩ := cut_all (n := n) (b := fun k => (τ 7 k).toInt.toNat) n 0 (Nat.zero_add n) 0 0 z_fu σd (Nat.le_refl 0) (Nat.le_refl 0) (by unfold z_fu; omega) hTC rfl
  have hB : TkB n (fun k => (τ 7 k).toInt.toNat) N P (σ6 98) (σ6 99) (σ6 100) := ⟨n1, c4, fun x hx => c6 x (Nat.zero_le x) hx⟩
  let τb : z_M := z_set (z_set (z_set (z_set (z_set (z_set (z_set τ 0 0 0) 0 34 0) 0 35 (-1)) 0 15 0) 0 28 0) 0 29 0) 0 27 (nI p)
  have hTM : TM n (fun k => (τ 7 k).toInt.toNat) τb := ⟨n1, n3, fun k hk => ⟨(hby k hk).1, (hby k hk).2.1⟩⟩
  obtain ⟨τ3, y1, y2, y3, y4⟩ := (hB.2.2 0 (Nat.zero_le N)).2.2 τb z_fu hTM (fun k hk => hC.2.2.2.1 k hk) (by rw [c5]; rfl) (by unfold z_fu; omega)
  have e101 : ∀ k, σ6 101 k = σd 101 k := fun k => by rw [c2.1 101 (by omega) (by omega) (by omega) (by omega)]
  have e102 : ∀ k, σ6 102 k = σd 102 k := fun k => by rw [c2.1 102 (by omega) (by omega) (by omega) (by omega)]
  refine ⟨n, N, fun k => (τ 7 k).toInt.toNat, P, σ6 98, σ6 99, σ6 100, H, σ6, τ3, ⟨hB, hH, eh, ⟨⟨Nat.zero_le N, by rw [e101]; rfl, rfl, rfl, rfl⟩, ⟨TM_MF hTM y2, fun k hk => by rw [y2.1 8 (by omega)]; exact hC.2.2.2.1 k hk, y3, y4⟩, by rw [e101]; rfl⟩, ⟨by rw [e101]; rfl, by rw [e101]; rfl, by rw [e102]; rfl, by rw [e102]; rfl, by rw [e101]; exact eh⟩, ⟨by rw [y2.2 6 (by omega)]; exact ehm, by rw [y2.2 28 (by omega)]; rfl, by rw [y2.2 29 (by omega)]; rfl, by rw [y2.2 27 (by omega)]; rfl, by rw [y2.2 34 (by omega)]; rfl, by rw [y2.2 35 (by omega)]; rfl⟩, fun c hc => ?_, ?_⟩, ?_, ?_⟩
  · rw [c2.1 c (by omega) (by omega) (by omega) (by omega)]
    show z_set (z_set (z_set (z_set (z_set (z_set (z_set (z_set σ 101 2 0) 101 3 (-1)) 101 5 (σ 1 0)) 101 6 s) 101 4 0) 102 2 0) 102 3 0) 96 5 0 c = σ c
    rw [s_ne (by omega), s_ne (by omega), s_ne (by omega), s_ne (by omega), s_ne (by omega), s_ne (by omega), s_ne (by omega), s_ne (by omega)]
  · exact XW_trans (XW_0 (.inl rfl)) (XW_trans (XW_0 (k := 34) (by omega)) (XW_trans (XW_0 (k := 35) (by omega)) (XW_trans (XW_0 (k := 15) (by omega)) (XW_trans (XW_0 (k := 28) (by omega)) (XW_trans (XW_0 (k := 29) (by omega)) (XW_trans (XW_0 (k := 27) (by omega)) (XW_of (XM_MF y2))))))))
  · have hcut : f8_cut_L9 z_fu 0 0 σd = some ((), σ6) := c1
    unfold f3_read
    rw [q_let, q_let, if_neg (show ¬ nI p < 0 from nI_pos (by omega)), if_neg (show ¬ 3 < nI p from nI_nlt (a := 3) (b := p) (by omega) (by omega)), q_let]
    have hj : ∀ s' σ', f3_read_J39 (nI p) s' σ' = z_bnd (f8_cut_L9 z_fu 0 0 (z_set (z_set (z_set (z_set (z_set σ' 101 6 s') 101 4 0) 102 2 0) 102 3 0) 96 5 0)) fun _ σ6 => f3_read_L63 z_fu (nI p) 0 σ6 := fun _ _ => rfl
    rw [hj, hj]
    by_cases q : p = 2
    · rw [if_pos (show nI p = 2 by rw [q]; rfl)]
      have es : s = 12 := if_pos q
      rw [← es]
      show z_bnd (f8_cut_L9 z_fu 0 0 σd) _ = _
      rw [hcut, q_bnd]
    · rw [if_neg (show ¬ nI p = 2 from fun z => by (have z : nI p = nI 2 := z; rw [nI_eq (by omega) (by omega)] at z; exact q z))]
      have es : s = 16 := if_neg q
      rw [← es]
      show z_bnd (f8_cut_L9 z_fu 0 0 σd) _ = _
      rw [hcut, q_bnd]
  · have hrd : f12_reads τb = some ((), τ3) := y1
    unfold f12_text f12_readsText
    rw [q_let, q_let, q_let, q_let, q_let, q_let, e12_isIn, if_neg (show ¬ nI p < 0 from nI_pos (by omega)), if_neg (show ¬ 3 < nI p from nI_nlt (a := 3) (b := p) (by omega) (by omega)), q_bnd, i_10, q_let]
    show z_bnd (z_bnd (f12_reads τb) _) _ = _
    rw [hrd, q_bnd, z_bid, z_bid, z_bid, z_bid]
    unfold rdr
    rcases (show p = 0 ∨ p = 1 ∨ p = 2 ∨ p = 3 by omega) with rfl | rfl | rfl | rfl <;> rfl
/-- a fault -/
theorem t_fault {p n N : Nat} {b P : Nat → Nat} {K V L : Nat → Int32} {H : Nat} {σ τ σ6 τ3 σ7 τ4 : z_M} (hR : Rel0 σ τ) (h0 : T0 p n N b P K V L H σ τ σ6 τ3) (e1 : f3_read (nI p) (σ 1 0) σ = f3_read_L63 z_fu (nI p) 0 σ6) (e2 : f12_text (nI p) τ = z_bnd (rdr p τ3) fun r9 σ10 => if r9 = -1 then f12_text_J69 (nI p) r9 (z_set (z_set σ10 0 34 (σ10 0 32)) 0 35 (σ10 0 33)) else f12_text_J69 (nI p) r9 σ10) (a1 : f3_read_L63 z_fu (nI p) 0 σ6 = some (0, σ7)) (a2 : rdr p τ3 = some (-1, τ4)) (a3 : Fa σ6 τ3 σ7 τ4) : ∃ (r : Int32) (σ' τ' : z_M), f11_text (nI p) σ = some (r, σ') ∧ f12_text (nI p) τ = some (r, τ') ∧ Rel0 σ' τ' := by
  obtain ⟨-, -, -, -, -, -, hc, hm⟩ := h0
  obtain ⟨f, pl, f1, f2, f3, f4, f5, f6, f7⟩ := a3
  refine ⟨-1, z_set σ7 96 1 0, z_set (z_set (z_set τ4 0 34 (τ4 0 32)) 0 35 (τ4 0 33)) 0 14 0, ?_, ?_, ?_⟩
  · unfold f11_text
    rw [e1, a1, q_bnd, q_let, i_00]
  · rw [e2, a2, q_bnd, if_pos rfl]
    unfold f12_text_J69
    rw [q_let, if_pos rfl]
  · refine Rel0_read hR (fun c q => ?_) (XW_trans hm (XW_trans (XW_of f7) (XW_trans (XW_0 (k := 34) (by omega)) (XW_trans (XW_0 (k := 35) (by omega)) (XW_0 (k := 14) (by omega)))))) s_eq s_eq ⟨?_, ?_⟩
    · rw [s_ne (by omega), f6.1 c (by omega), hc c q]
    · rw [s_ne (by omega), s_kn (by omega), s_kn (by omega), s_eq, f2, f4]
    · rw [s_ne (by omega), s_kn (by omega), s_eq, f3, f5]
/-- read, not yet taken -/
theorem t_read {p n N : Nat} {b P : Nat → Nat} {K V L : Nat → Int32} {H : Nat} {σ τ σ6 τ3 σ7 τ4 : z_M} (hR : Rel0 σ τ) (h0 : T0 p n N b P K V L H σ τ σ6 τ3) (hX : XC σ6 σ7) (hY : XM τ3 τ4) (h2 : σ7 101 2 = 0) (h3 : σ7 101 3 = -1) : Rel0 (z_set σ7 96 1 0) (z_set τ4 0 14 0) ∧ (∀ H', R_now H' (z_set σ7 96 1 0) (z_set τ4 0 14 0) → H' = H) := by
  obtain ⟨-, hH, eh, -, -, hτ, hc, hm⟩ := h0
  refine ⟨Rel0_read hR (fun c q => ?_) (XW_trans hm (XW_trans (XW_of hY) (XW_0 (k := 14) (by omega)))) s_eq s_eq ⟨?_, ?_⟩, fun H' hN => ?_⟩
  · rw [s_ne (by omega), hX.1 c (by omega), hc c q]
  · rw [s_ne (by omega), s_kn (by omega), hY.2.1 34 (by omega), h2, hτ.2.2.2.2.1]
  · rw [s_ne (by omega), s_kn (by omega), hY.2.1 35 (by omega), h3, hτ.2.2.2.2.2]
  · have e1 : z_set σ7 96 1 0 1 0 = nI H' := hN.1.2.1
    have hH' : H' ≤ 8 := hN.1.1
    rw [s_ne (by omega), hX.1 1 (by omega), hc 1 (by omega), eh, nI_eq (by omega) (by omega)] at e1
    exact e1.symm
/-- reasons, taken -/
theorem t_take0 {n N : Nat} {b P : Nat → Nat} {K V L : Nat → Int32} {H k : Nat} {σ τ σ6 τ3 σ7 τ4 : z_M} (hR : Rel0 σ τ) (h0 : T0 0 n N b P K V L H σ τ σ6 τ3) (e1 : f3_read (nI 0) (σ 1 0) σ = f3_read_L63 z_fu (nI 0) 0 σ6) (e2 : f12_text (nI 0) τ = z_bnd (rdr 0 τ3) fun r9 σ10 => if r9 = -1 then f12_text_J69 (nI 0) r9 (z_set (z_set σ10 0 34 (σ10 0 32)) 0 35 (σ10 0 33)) else f12_text_J69 (nI 0) r9 σ10) (a1 : f3_read_L63 z_fu (nI 0) 0 σ6 = some (1, σ7)) (a2 : rdr 0 τ3 = some (nI k, τ4)) (hk : k ≤ 16) (hX : XC σ6 σ7) (hY : XM τ3 τ4) (h2 : σ7 101 2 = 0) (h3 : σ7 101 3 = -1) (hl : σ7 102 2 = nI k) (hc : σ7 102 3 = 0) (hD : DR k σ7 τ4) : ∃ (r : Int32) (σ' τ' : z_M), f11_text (nI 0) σ = some (r, σ') ∧ f12_text (nI 0) τ = some (r, τ') ∧ Rel0 σ' τ' := by
  obtain ⟨hR1, -⟩ := t_read hR h0 hX hY h2 h3
  obtain ⟨σ9, p1, p2, p3, p4, p5, p6, p7⟩ := e9_copy (a := 4) (b := 102) (A := 80) (B := 80) (C := 0) (D := 400) (n := k) (k := 0) (σ := z_set (z_set σ7 96 1 0) 58 2 0) (by omega) rfl rfl rfl rfl (by rw [s_ne (by omega), s_ne (by omega)]; exact hl) (by rw [s_ne (by omega), s_ne (by omega)]; exact hc) (by omega) (by omega) (by omega) (by omega) (by omega) (by omega)
  obtain ⟨τ6, m1, m2, m3, m4, m5, m6⟩ := e12_take0 (k := k) (τ := z_set τ4 0 14 0) hk
  refine ⟨nI k, σ9, τ6, ?_, ?_, ?_⟩
  · unfold f11_text
    rw [e1, a1, q_bnd, q_let, i_10, if_pos (show nI 0 = 0 from rfl)]
    unfold f11_text_J39
    rw [show f10_forget (z_set σ7 96 1 0) = some ((), z_set (z_set σ7 96 1 0) 58 2 0) from rfl, q_bnd]
    unfold f11_text_J46
    rw [show f1_told 1 (nI 0) (z_set (z_set σ7 96 1 0) 58 2 0) = some (4, z_set (z_set σ7 96 1 0) 58 2 0) from rfl, q_bnd, p1, q_bnd, p3]
  · rw [e2, a2, q_bnd, if_neg (q_neg (by omega))]
    unfold f12_text_J69
    rw [q_let, if_neg (q_neg (by omega)), if_neg (show ¬ nI 0 = 1 by decide), show f12_takesOther (nI 0) (nI k) (z_set τ4 0 14 0) = some ((), τ6) from m1, q_bnd]
  · have q9 : ∀ c, c < 4 ∨ 6 < c → c ≠ 58 → σ9 c = z_set σ7 96 1 0 c := fun c a d => by rw [p2 c a, s_ne d]
    refine Rel0_take hR1 (fun c a => q9 c (by omega) (by omega)) (q9 50 (by omega) (by omega)) (q9 51 (by omega) (by omega)) (q9 96 (by omega) (by omega)) (q9 97 (by omega) (by omega)) (q9 101 (by omega) (by omega)) (fun c a => m2 c (by omega) (by omega)) (fun s a => m3 s (by omega) (by omega)) (fun H' hU => R_und_none hU (by rw [p2 58 (by omega), s_kn (by omega)]) (by rw [p2 58 (by omega), s_eq]) m4) (fun H' hN => ⟨⟨k, hk, p3, m5, fun i hi => ?_⟩, ?_, ?_, ?_⟩) ⟨p4, ?_, ?_⟩
    · rw [p6 _ (by omega), p6 _ (by omega), p6 _ (by omega), m6 _ (by omega), m6 _ (by omega), m6 _ (by omega), s_ne (by omega), s_ne (by omega), s_ne (by omega)]
      exact hD i hi
    · rw [q9 7 (by omega) (by omega), q9 8 (by omega) (by omega), q9 9 (by omega) (by omega), m2 9 (by omega) (by omega), m2 10 (by omega) (by omega), m2 11 (by omega) (by omega), m2 12 (by omega) (by omega), m2 13 (by omega) (by omega), m2 14 (by omega) (by omega), m2 15 (by omega) (by omega)]
      exact hN.2.2.2.2.1
    · rw [q9 10 (by omega) (by omega), q9 11 (by omega) (by omega), m3 38 (by omega) (by omega), m2 18 (by omega) (by omega)]
      exact hN.2.2.2.2.2.1
    · rw [q9 13 (by omega) (by omega), q9 14 (by omega) (by omega), m3 40 (by omega) (by omega), m2 19 (by omega) (by omega)]
      exact hN.2.2.2.2.2.2.1
    · rw [q9 10 (by omega) (by omega)]; exact hR1.2.2.2.2.2.2.2.2.2.1
    · rw [q9 13 (by omega) (by omega)]; exact hR1.2.2.2.2.2.2.2.2.2.2.1
/-- the law, taken -/
theorem t_take1 {n N : Nat} {b P : Nat → Nat} {K V L : Nat → Int32} {H k c : Nat} {σ τ σ6 τ3 σ7 τ4 : z_M} (hR : Rel0 σ τ) (h0 : T0 1 n N b P K V L H σ τ σ6 τ3) (e1 : f3_read (nI 1) (σ 1 0) σ = f3_read_L63 z_fu (nI 1) 0 σ6) (e2 : f12_text (nI 1) τ = z_bnd (rdr 1 τ3) fun r9 σ10 => if r9 = -1 then f12_text_J69 (nI 1) r9 (z_set (z_set σ10 0 34 (σ10 0 32)) 0 35 (σ10 0 33)) else f12_text_J69 (nI 1) r9 σ10) (a1 : f3_read_L63 z_fu (nI 1) 0 σ6 = some (1, σ7)) (a2 : rdr 1 τ3 = some (nI k, τ4)) (hk : k ≤ 16) (hX : XC σ6 σ7) (hY : XM τ3 τ4) (h2 : σ7 101 2 = 0) (h3 : σ7 101 3 = -1) (hl : σ7 102 2 = nI k) (hc : c ≤ 400) (hCD : CD c σ7 τ4) (h27 : τ4 0 27 = 1) (hD : DL k c σ7 τ4) : ∃ (r : Int32) (σ' τ' : z_M), f11_text (nI 1) σ = some (r, σ') ∧ f12_text (nI 1) τ = some (r, τ') ∧ Rel0 σ' τ' := by
  obtain ⟨hR1, -⟩ := t_read hR h0 hX hY h2 h3
  obtain ⟨σ9, p1, p2, p3, p4, p5, p6, p7⟩ := e9_copy (a := 7) (b := 102) (A := 80) (B := 80) (C := 400) (D := 400) (n := k) (k := c) (σ := z_set σ7 96 1 0) (by omega) rfl rfl rfl rfl (by rw [s_ne (by omega)]; exact hl) (by rw [s_ne (by omega)]; exact hCD.1) (by omega) (by omega) (by omega) (by omega) (by omega) (by omega)
  obtain ⟨τ6, m1, m2, m3, m4, m5⟩ := e12_take1 (k := k) (c := c) (τ := z_set τ4 0 14 0) hk hc (by rw [s_kn (by omega)]; exact h27) (by rw [s_kn (by omega)]; exact hCD.2.1)
  refine ⟨nI k, σ9, τ6, ?_, ?_, ?_⟩
  · unfold f11_text
    rw [e1, a1, q_bnd, q_let, i_10, if_neg (show ¬ nI 1 = 0 by decide), if_neg (show ¬ nI 1 = 3 by decide)]
    unfold f11_text_J46
    rw [show f1_told 1 (nI 1) (z_set σ7 96 1 0) = some (7, z_set σ7 96 1 0) from rfl, q_bnd, p1, q_bnd, p3]
  · rw [e2, a2, q_bnd, if_neg (q_neg (by omega))]
    unfold f12_text_J69
    rw [q_let, if_neg (q_neg (by omega)), if_pos (show nI 1 = 1 from rfl), m1, q_bnd]
  · have m9 : τ6 0 = z_set τ4 0 14 0 0 := m2 0 (by omega)
    have f8 : ∀ i, i < c → σ9 9 i = σ7 104 i := fun i hi => by rw [p7 i hi, s_ne (by omega)]
    refine Rel0_take hR1 (fun d a => p2 d (by omega)) (p2 50 (by omega)) (p2 51 (by omega)) (p2 96 (by omega)) (p2 97 (by omega)) (p2 101 (by omega)) (fun d a => m2 d (by omega)) (fun s a => by rw [m9]) (fun H' hU => R_und_cong hU (fun d a e => p2 d (by omega)) (m2 2 (by omega)) (by rw [m9])) (fun H' hN => ⟨?_, ⟨k, c, hk, hc, p3, m3, p4, fun i hi => ?_, fun i hi => ?_⟩, ?_, ?_⟩) ⟨?_, ?_, ?_⟩
    · rw [p2 4 (by omega), p2 5 (by omega), m9, m2 17 (by omega)]
      exact hN.2.2.2.1
    · show C_rel (σ9 9 i) (τ6 14 (400 + i)) (τ6 15 (400 + i))
      rw [f8 i hi, (m5 i hi).1, (m5 i hi).2, s_ne (by omega), s_ne (by omega)]
      exact hCD.2.2 i hi
    · show (∃ f t e, σ9 8 (5 * i + 1) = nI f ∧ σ9 8 (5 * i + 2) = nI t ∧ σ9 8 (5 * i + 3) = nI e ∧ τ6 11 (16 + i) = nI f ∧ τ6 12 (16 + i) = nI t ∧ τ6 13 (16 + i) = nI e ∧ e ≤ c ∧ C_ok (σ9 9) f t ∧ (t = e ∨ C_ok (σ9 9) t e)) ∧ ((σ9 8 (5 * i) = 8 ∧ τ6 10 (16 + i) = 0) ∨ (σ9 8 (5 * i) = 9 ∧ τ6 10 (16 + i) = 1) ∨ (σ9 8 (5 * i) = 10 ∧ τ6 10 (16 + i) = 2))
      rw [p6 _ (by omega), p6 _ (by omega), p6 _ (by omega), p6 _ (by omega), m4 10 i (by omega) (by omega) hi, m4 11 i (by omega) (by omega) hi, m4 12 i (by omega) (by omega) hi, m4 13 i (by omega) (by omega) hi, s_ne (show 102 + 1 ≠ 96 by omega), s_ne (show 10 ≠ 0 by omega), s_ne (show 11 ≠ 0 by omega), s_ne (show 12 ≠ 0 by omega), s_ne (show 13 ≠ 0 by omega)]
      obtain ⟨⟨f, t, u, u1, u2, u3, u4, u5, u6, u7, u8, u9⟩, u10⟩ := hD i hi
      have htu : t ≤ u := by
        rcases u9 with z | z
        · omega
        · exact z.1
      exact ⟨⟨f, t, u, u1, u2, u3, u4, u5, u6, u7, C_ok_cong u8 (fun j hj => f8 j (by omega)), u9.imp id (fun z => C_ok_cong z (fun j hj => f8 j (by omega)))⟩, u10⟩
    · rw [p2 10 (by omega), p2 11 (by omega), m9, m2 18 (by omega)]
      exact hN.2.2.2.2.2.1
    · rw [p2 13 (by omega), p2 14 (by omega), m9, m2 19 (by omega)]
      exact hN.2.2.2.2.2.2.1
    · rw [p2 4 (by omega)]; exact hR1.2.2.2.2.2.2.2.2.1
    · rw [p2 10 (by omega)]; exact hR1.2.2.2.2.2.2.2.2.2.1
    · rw [p2 13 (by omega)]; exact hR1.2.2.2.2.2.2.2.2.2.2.1
/-- works, taken -/
theorem t_take2 {n N : Nat} {b P : Nat → Nat} {K V L : Nat → Int32} {H k : Nat} {σ τ σ6 τ3 σ7 τ4 : z_M} (hR : Rel0 σ τ) (h0 : T0 2 n N b P K V L H σ τ σ6 τ3) (e1 : f3_read (nI 2) (σ 1 0) σ = f3_read_L63 z_fu (nI 2) 0 σ6) (e2 : f12_text (nI 2) τ = z_bnd (rdr 2 τ3) fun r9 σ10 => if r9 = -1 then f12_text_J69 (nI 2) r9 (z_set (z_set σ10 0 34 (σ10 0 32)) 0 35 (σ10 0 33)) else f12_text_J69 (nI 2) r9 σ10) (a1 : f3_read_L63 z_fu (nI 2) 0 σ6 = some (1, σ7)) (a2 : rdr 2 τ3 = some (nI k, τ4)) (hk : k ≤ 12) (hX : XC σ6 σ7) (hY : XM τ3 τ4) (h2 : σ7 101 2 = 0) (h3 : σ7 101 3 = -1) (hl : σ7 102 2 = nI k) (hc : σ7 102 3 = 0) (hD : DW H k σ7 τ4) : ∃ (r : Int32) (σ' τ' : z_M), f11_text (nI 2) σ = some (r, σ') ∧ f12_text (nI 2) τ = some (r, τ') ∧ Rel0 σ' τ' := by
  obtain ⟨hR1, hH1⟩ := t_read hR h0 hX hY h2 h3
  obtain ⟨σ9, p1, p2, p3, p4, p5, p6, p7⟩ := e9_copy (a := 10) (b := 102) (A := 60) (B := 80) (C := 0) (D := 400) (n := k) (k := 0) (σ := z_set σ7 96 1 0) (by omega) rfl rfl rfl rfl (by rw [s_ne (by omega)]; exact hl) (by rw [s_ne (by omega)]; exact hc) (by omega) (by omega) (by omega) (by omega) (by omega) (by omega)
  obtain ⟨τ6, m1, m2, m3, m4, m5⟩ := e12_take2 (k := k) (τ := z_set τ4 0 14 0) hk
  refine ⟨nI k, σ9, τ6, ?_, ?_, ?_⟩
  · unfold f11_text
    rw [e1, a1, q_bnd, q_let, i_10, if_neg (show ¬ nI 2 = 0 by decide), if_neg (show ¬ nI 2 = 3 by decide)]
    unfold f11_text_J46
    rw [show f1_told 1 (nI 2) (z_set σ7 96 1 0) = some (10, z_set σ7 96 1 0) from rfl, q_bnd, p1, q_bnd, p3]
  · rw [e2, a2, q_bnd, if_neg (q_neg (by omega))]
    unfold f12_text_J69
    rw [q_let, if_neg (q_neg (by omega)), if_neg (show ¬ nI 2 = 1 by decide), show f12_takesOther (nI 2) (nI k) (z_set τ4 0 14 0) = some ((), τ6) from m1, q_bnd]
  · refine Rel0_take hR1 (fun d a => p2 d (by omega)) (p2 50 (by omega)) (p2 51 (by omega)) (p2 96 (by omega)) (p2 97 (by omega)) (p2 101 (by omega)) (fun d a => m2 d (by omega) (by omega)) (fun s a => m3 s (by omega)) (fun H' hU => R_und_cong hU (fun d a e => p2 d (by omega)) (m2 2 (by omega) (by omega)) (m3 3 (by omega))) (fun H' hN => ⟨?_, ?_, ⟨k, hk, p3, m4, fun i hi => ?_⟩, ?_⟩) ⟨?_, p4, ?_⟩
    · rw [p2 4 (by omega), p2 5 (by omega), m3 36 (by omega), m2 17 (by omega) (by omega)]
      exact hN.2.2.2.1
    · rw [p2 7 (by omega), p2 8 (by omega), p2 9 (by omega), m2 9 (by omega) (by omega), m2 10 (by omega) (by omega), m2 11 (by omega) (by omega), m2 12 (by omega) (by omega), m2 13 (by omega) (by omega), m2 14 (by omega) (by omega), m2 15 (by omega) (by omega)]
      exact hN.2.2.2.2.1
    · rw [p6 _ (by omega), p6 _ (by omega), p6 _ (by omega), m5 _ (by omega), m5 _ (by omega), m5 _ (by omega), s_ne (by omega), s_ne (by omega), hH1 H' hN]
      exact hD i hi
    · rw [p2 13 (by omega), p2 14 (by omega), m3 40 (by omega), m2 19 (by omega) (by omega)]
      exact hN.2.2.2.2.2.2.1
    · rw [p2 4 (by omega)]; exact hR1.2.2.2.2.2.2.2.2.1
    · rw [p2 13 (by omega)]; exact hR1.2.2.2.2.2.2.2.2.2.2.1
/-- a plan, taken -/
theorem t_take3 {n N : Nat} {b P : Nat → Nat} {K V L : Nat → Int32} {H k : Nat} {σ τ σ6 τ3 σ7 τ4 : z_M} (hR : Rel0 σ τ) (h0 : T0 3 n N b P K V L H σ τ σ6 τ3) (e1 : f3_read (nI 3) (σ 1 0) σ = f3_read_L63 z_fu (nI 3) 0 σ6) (e2 : f12_text (nI 3) τ = z_bnd (rdr 3 τ3) fun r9 σ10 => if r9 = -1 then f12_text_J69 (nI 3) r9 (z_set (z_set σ10 0 34 (σ10 0 32)) 0 35 (σ10 0 33)) else f12_text_J69 (nI 3) r9 σ10) (a1 : f3_read_L63 z_fu (nI 3) 0 σ6 = some (1, σ7)) (a2 : rdr 3 τ3 = some (nI k, τ4)) (hk : k ≤ 16) (hX : XC σ6 σ7) (hY : XM τ3 τ4) (h2 : σ7 101 2 = 0) (h3 : σ7 101 3 = -1) (hl : σ7 102 2 = nI k) (hc : σ7 102 3 = 0) (hD : DP H k σ7 τ4) : ∃ (r : Int32) (σ' τ' : z_M), f11_text (nI 3) σ = some (r, σ') ∧ f12_text (nI 3) τ = some (r, τ') ∧ Rel0 σ' τ' := by
  obtain ⟨hR1, hH1⟩ := t_read hR h0 hX hY h2 h3
  obtain ⟨σ9, p1, p2, p3, p4, p5, p6, p7⟩ := e9_copy (a := 13) (b := 102) (A := 80) (B := 80) (C := 0) (D := 400) (n := k) (k := 0) (σ := z_set (z_set σ7 96 1 0) 58 2 0) (by omega) rfl rfl rfl rfl (by rw [s_ne (by omega), s_ne (by omega)]; exact hl) (by rw [s_ne (by omega), s_ne (by omega)]; exact hc) (by omega) (by omega) (by omega) (by omega) (by omega) (by omega)
  obtain ⟨τ6, m1, m2, m3, m4, m5, m6⟩ := e12_take3 (k := k) (τ := z_set τ4 0 14 0) hk
  refine ⟨nI k, σ9, τ6, ?_, ?_, ?_⟩
  · unfold f11_text
    rw [e1, a1, q_bnd, q_let, i_10, if_neg (show ¬ nI 3 = 0 by decide), if_pos (show nI 3 = 3 from rfl)]
    unfold f11_text_J39
    rw [show f10_forget (z_set σ7 96 1 0) = some ((), z_set (z_set σ7 96 1 0) 58 2 0) from rfl, q_bnd]
    unfold f11_text_J46
    rw [show f1_told 1 (nI 3) (z_set (z_set σ7 96 1 0) 58 2 0) = some (13, z_set (z_set σ7 96 1 0) 58 2 0) from rfl, q_bnd, p1, q_bnd, p3]
  · rw [e2, a2, q_bnd, if_neg (q_neg (by omega))]
    unfold f12_text_J69
    rw [q_let, if_neg (q_neg (by omega)), if_neg (show ¬ nI 3 = 1 by decide), show f12_takesOther (nI 3) (nI k) (z_set τ4 0 14 0) = some ((), τ6) from m1, q_bnd]
  · have q9 : ∀ c, c < 13 ∨ 15 < c → c ≠ 58 → σ9 c = z_set σ7 96 1 0 c := fun c a d => by rw [p2 c a, s_ne d]
    refine Rel0_take hR1 (fun c a => q9 c (by omega) (by omega)) (q9 50 (by omega) (by omega)) (q9 51 (by omega) (by omega)) (q9 96 (by omega) (by omega)) (q9 97 (by omega) (by omega)) (q9 101 (by omega) (by omega)) (fun c a => m2 c (by omega) (by omega)) (fun s a => m3 s (by omega) (by omega)) (fun H' hU => R_und_none hU (by rw [p2 58 (by omega), s_kn (by omega)]) (by rw [p2 58 (by omega), s_eq]) m4) (fun H' hN => ⟨?_, ?_, ?_, ⟨k, hk, p3, m5, fun i hi => ?_⟩⟩) ⟨?_, ?_, p4⟩
    · rw [q9 4 (by omega) (by omega), q9 5 (by omega) (by omega), m3 36 (by omega) (by omega), m2 17 (by omega) (by omega)]
      exact hN.2.2.2.1
    · rw [q9 7 (by omega) (by omega), q9 8 (by omega) (by omega), q9 9 (by omega) (by omega), m2 9 (by omega) (by omega), m2 10 (by omega) (by omega), m2 11 (by omega) (by omega), m2 12 (by omega) (by omega), m2 13 (by omega) (by omega), m2 14 (by omega) (by omega), m2 15 (by omega) (by omega)]
      exact hN.2.2.2.2.1
    · rw [q9 10 (by omega) (by omega), q9 11 (by omega) (by omega), m3 38 (by omega) (by omega), m2 18 (by omega) (by omega)]
      exact hN.2.2.2.2.2.1
    · rw [p6 _ (by omega), p6 _ (by omega), p6 _ (by omega), p6 _ (by omega), p6 _ (by omega), m6 _ (by omega), m6 _ (by omega), m6 _ (by omega), m6 _ (by omega), m6 _ (by omega), s_ne (by omega), s_ne (by omega), s_ne (by omega), hH1 H' hN]
      exact hD i hi
    · rw [q9 4 (by omega) (by omega)]; exact hR1.2.2.2.2.2.2.2.2.1
    · rw [q9 10 (by omega) (by omega)]; exact hR1.2.2.2.2.2.2.2.2.2.1
theorem p_text0 : p_text Rel0 := by
  intro p1 σ τ hR
  by_cases hb : p1 < 0 ∨ 3 < p1
  · refine ⟨-1, z_set (z_set (z_set σ 101 2 0) 101 3 (-1)) 96 1 0, z_set (z_set (z_set (z_set (z_set (z_set (z_set τ 0 0 0) 0 34 0) 0 35 (-1)) 0 15 0) 0 28 0) 0 29 0) 0 14 0, ?_, ?_, ?_⟩
    · have e : f3_read p1 (σ 1 0) σ = some (0, z_set (z_set σ 101 2 0) 101 3 (-1)) := by
        unfold f3_read
        rw [q_let, q_let]
        rcases hb with q | q
        · rw [if_pos q]
        · rw [if_pos q, ite_self]
      unfold f11_text
      rw [e, q_bnd, q_let, i_00]
    · unfold f12_text f12_text_J69
      rw [q_let, q_let, q_let, q_let, q_let, q_let, e12_isIn, q_bnd]
      rcases hb with q | q
      · rw [if_pos q, i_00, q_let, if_pos rfl]
      · rw [if_pos q, ite_self, i_00, q_let, if_pos rfl]
    · refine Rel0_read hR (fun c q => by rw [s_ne (by omega), s_ne (by omega), s_ne (by omega)]) (XW_trans (XW_0 (.inl rfl)) (XW_trans (XW_0 (k := 34) (by omega)) (XW_trans (XW_0 (k := 35) (by omega)) (XW_trans (XW_0 (k := 15) (by omega)) (XW_trans (XW_0 (k := 28) (by omega)) (XW_trans (XW_0 (k := 29) (by omega)) (XW_0 (k := 14) (by omega)))))))) s_eq s_eq ⟨rfl, rfl⟩
  · obtain ⟨p, hp, rfl⟩ := q_natle (n := 3) (fun z => hb (.inl z)) (fun z => hb (.inr z))
    obtain ⟨n, N, b, P, K, V, L, H, σ6, τ3, h0, e1, e2⟩ := t_start hR hp
    have h00 := h0
    obtain ⟨hB, hH, eh, hBo, ⟨s1, s2, s3, s4, s5⟩, ⟨t1, t2, t3, t4, t5, t6⟩, -, -⟩ := h00
    rcases (show p = 0 ∨ p = 1 ∨ p = 2 ∨ p = 3 by omega) with rfl | rfl | rfl | rfl
    · rcases r_reasons hB ⟨hBo, by omega, s1, s2, s3, s4, fun i hi => absurd hi (by omega)⟩ with ⟨σ', τ', k, x, a1, a2, a3, a4, a5, a6⟩ | ⟨σ', τ', a1, a2, a3⟩
      · obtain ⟨i1, i2, i3, i4, i5, i6, i7⟩ := a4
        exact t_take0 hR h0 e1 e2 a2 a3 a1 a5 a6 i1.2.2 i3 i5 i6 i7
      · exact t_fault hR h0 e1 e2 a1 a2 a3
    · rcases r_law hB ⟨hBo, by omega, s1, s2, s3, ⟨0, by omega, ⟨s4, t2, fun i hi => absurd hi (by omega)⟩, fun i hi => absurd hi (by omega)⟩, t3, t4⟩ with ⟨σ', τ', k, x, a1, a2, a3, a4, a5, a6⟩ | ⟨σ', τ', a1, a2, a3⟩
      · obtain ⟨i1, i2, i3, i4, i5, ⟨c, c1, c2, c3⟩, i7, i8⟩ := a4
        exact t_take1 hR h0 e1 e2 a2 a3 a1 a5 a6 i1.2.2 i3 i5 (by have := Bo_N hB i1; omega) c2 i8 c3
      · exact t_fault hR h0 e1 e2 a1 a2 a3
    · rcases r_works hB hH 12 0 0 z_fu z_fu σ6 τ3 (by omega) (by decide) (by decide) hBo.1 hBo.2.1 hBo.2.2 s3 s5 s2 t1 (fun i hi => absurd hi (by omega)) with ⟨σ', τ', k, a1, a2, a3, a4, a5, a6, a7, a8, a9, a10⟩ | ⟨σ', τ', a1, a2, a3⟩
      · exact t_take2 hR h0 e1 e2 a2 a3 a1 a8 a9 a4 (a5.trans s1) a6 ((a7 3 (by omega)).trans s4) a10
      · exact t_fault hR h0 e1 e2 a1 a2 a3
    · rcases r_plan hB hH ⟨hBo, by omega, s1, s2, s3, s4, s5, t1, fun i hi => absurd hi (by omega)⟩ with ⟨σ', τ', k, x, a1, a2, a3, a4, a5, a6⟩ | ⟨σ', τ', a1, a2, a3⟩
      · obtain ⟨i1, i2, i3, i4, i5, i6, i7, i8, i9⟩ := a4
        exact t_take3 hR h0 e1 e2 a2 a3 a1 a5 a6 i1.2.2 i3 i5 i6 i9
      · exact t_fault hR h0 e1 e2 a1 a2 a3
