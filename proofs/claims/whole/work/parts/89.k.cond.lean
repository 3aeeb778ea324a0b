/-! the law's conditions: joins, comparisons, the whole -/
def WC (x l : Nat) (v : Int32) (σ : z_M) : z_M := z_set (z_set (z_set σ 105 l v) 101 8 (nI (l + 1))) 101 4 (nI (x + 1))
def WM (l : Nat) (v : Int32) (τ : z_M) : z_M := z_set (z_set τ 16 l v) 0 31 (nI (l + 1))
theorem e12_waits {l : Nat} {v : Int32} {τ : z_M} (h : τ 0 31 = nI l) (hl : l < 40) : f12_waits v τ = some ((), WM l v τ) := by
  unfold f12_waits WM
  rw [h, k_cin _ hl (by omega), q_ix (by omega), q_let, s_ne (by omega), h, nI_1, q_let]
section
variable {n N : Nat} {b P : Nat → Nat} {K V L : Nat → Int32}
theorem FA_VF {c : Nat} {σ τ σ1 τ1 σ' τ' : z_M} (h : VF c σ τ σ1 τ1) (hd : DK σ1) (g : FA N K V L σ1 τ1 σ' τ') : FA N K V L σ τ σ' τ' := FA_trans (VF_XC h) (VF_XM h) (fun _ => hd) g
theorem e3_waits {x l : Nat} {σ : z_M} (hc : AC N K V L x σ) (hN : N ≤ 400) (h8 : σ 101 8 = nI l) (hl : l < 32) : f3_waits σ = some ((), WC x l (K x) σ) := by
  unfold f3_waits f3_waits_J35 WC
  rw [h8, if_pos (show nI l < 32 from nI_lt (a := l) (b := 32) hl (by omega)), e3_kind hc hN, q_bnd, k_cin _ hl (by omega), q_ix (by omega), q_let, s_ne (by omega), h8, nI_1, q_let, s_kn (by omega), s_ne (by omega), hc.2.1, nI_1, q_let]
/-- one more waits, on both sides -/
theorem r_push {x w : Nat} {W : List Nat} {σ τ : z_M} (hB : TkB n b N P K V L) (h : Bo n N b P K V L x σ τ) (hS : Sw W σ τ) (hl : W.length < 32) (hk : K x = nI w) (hw : wR (w :: W)) : ∃ τ', f3_waits σ = some ((), WC x W.length (nI w) σ) ∧ f12_waits (nI (rop w)) τ = some ((), WM W.length (nI (rop w)) τ) ∧ f12_reads (WM W.length (nI (rop w)) τ) = some ((), τ') ∧ Bo n N b P K V L (x + 1) (WC x W.length (nI w) σ) τ' ∧ Sw (w :: W) (WC x W.length (nI w) σ) τ' ∧ (∀ c, VF c σ τ (WC x W.length (nI w) σ) τ') ∧ (∀ c, CD c σ τ → CD c (WC x W.length (nI w) σ) τ') ∧ WC x W.length (nI w) σ 104 = σ 104 ∧ WC x W.length (nI w) σ 101 9 = σ 101 9 ∧ τ' 0 29 = τ 0 29 := by
  obtain ⟨hx, hN⟩ := Bo_N hB h
  have hw43 : w < 43 := by
    rcases hw.1 with rfl | rfl | ⟨rfl, -⟩ | ⟨rfl, -⟩ <;> omega
  have hlt := x_lt hB hx (k43 hw43 hk)
  have hAM : AM n b P K V L x (WM W.length (nI (rop w)) τ) := by
    unfold WM
    exact AM_cong h.2.1 (by rw [s_ne (by omega), s_ne (by omega)]) (by rw [s_ne (by omega), s_ne (by omega)]) (fun k _ _ => by rw [s_kn (by omega), s_ne (by omega)])
  obtain ⟨τ', y1, y2, y3⟩ := AM_next hB hAM hlt
  have e1 := e3_waits h.1 hN hS.2.2.1 hl
  rw [hk] at e1
  have c104 : WC x W.length (nI w) σ 104 = σ 104 := by unfold WC; rw [s_ne (by omega), s_ne (by omega), s_ne (by omega)]
  have c102 : WC x W.length (nI w) σ 102 = σ 102 := by unfold WC; rw [s_ne (by omega), s_ne (by omega), s_ne (by omega)]
  refine ⟨τ', e1, e12_waits hS.2.2.2 (by omega), y1, ⟨⟨hlt, ?_, ?_, ?_, ?_⟩, y3, ?_⟩, ⟨hw, ⟨?_, ?_, StR_cong W hS.2.1 (fun i hi => ⟨?_, ?_⟩)⟩, ?_, ?_⟩, fun c => ?_, fun c hc => CD_cong hc (by rw [c102]) c104 ?_ ?_ ?_, c104, ?_, ?_⟩
  · unfold WC; exact s_eq
  · unfold WC; rw [s_ne (by omega), s_ne (by omega), s_ne (by omega)]; exact h.1.2.2.1
  · unfold WC; rw [s_ne (by omega), s_ne (by omega), s_ne (by omega)]; exact h.1.2.2.2.1
  · unfold WC; rw [s_ne (by omega), s_ne (by omega), s_ne (by omega)]; exact h.1.2.2.2.2
  · unfold WC; rw [s_kn (by omega), s_kn (by omega), s_ne (by omega)]; exact h.2.2
  · unfold WC; rw [s_ne (by omega), s_ne (by omega), s_eq]
  · rw [y2.1 16 (by omega)]; unfold WM; rw [s_ne (by omega), s_eq]
  · unfold WC; rw [s_ne (by omega), s_ne (by omega), s_kn (by omega)]
  · rw [y2.1 16 (by omega)]; unfold WM; rw [s_ne (by omega), s_kn (by omega)]
  · unfold WC; rw [s_kn (by omega), s_eq]; rfl
  · rw [y2.2 31 (by omega)]; unfold WM; rw [s_eq]; rfl
  · refine VF_trans (Nat.le_refl c) (σ' := WC x W.length (nI w) σ) (τ' := WM W.length (nI (rop w)) τ) ?_ (VF_SF (SF_tok (QF_refl _) y2))
    unfold WC WM
    exact VF_trans (Nat.le_refl c) VF_105 (VF_trans (Nat.le_refl c) (VF_101 (.inr (.inl rfl))) (VF_trans (Nat.le_refl c) (VF_101 (.inl rfl)) (VF_trans (Nat.le_refl c) VF_16 (VF_0 (.inr (.inr rfl))))))
  · rw [y2.2 28 (by omega)]; unfold WM; rw [s_kn (by omega), s_ne (by omega)]
  · rw [y2.1 14 (by omega)]; unfold WM; rw [s_ne (by omega), s_ne (by omega)]
  · rw [y2.1 15 (by omega)]; unfold WM; rw [s_ne (by omega), s_ne (by omega)]
  · unfold WC; rw [s_kn (by omega), s_kn (by omega), s_ne (by omega)]
  · rw [y2.2 29 (by omega)]; unfold WM; rw [s_kn (by omega), s_ne (by omega)]
/-- an operand must come -/
def OPs (n N : Nat) (b P : Nat → Nat) (K V L : Nat → Int32) (f c x : Nat) (W : List Nat) (σ τ : z_M) : Prop := BL n N b P K V L f c x (tr (cJ W)) σ τ ∧ Sw W σ τ ∧ Op (cO W) σ τ ∧ c + W.length ≤ x
theorem hW_1 {W : List Nat} (h : wR W) (a : ¬ hd W = 13) (c : ¬ hd W = 14) : hW W ≤ 1 ∧ (W = [] ∨ hd W = 37 ∨ hd W = 12) := by
  rcases W with _ | ⟨w, W⟩
  · exact ⟨by show 0 ≤ 1; omega, .inl rfl⟩
  · have a : ¬ w = 13 := a
    have c : ¬ w = 14 := c
    rcases h.1 with rfl | rfl | ⟨rfl, -⟩ | ⟨rfl, -⟩
    · exact absurd rfl c
    · exact ⟨by show 0 ≤ 1; omega, .inr (.inl rfl)⟩
    · exact absurd rfl a
    · exact ⟨by show 1 ≤ 1; omega, .inr (.inr rfl)⟩
theorem hW_hd {W : List Nat} (h : hW W ≤ 1) : ¬ hd W = 13 ∧ ¬ hd W = 14 := by
  rcases W with _ | ⟨w, W⟩
  · exact ⟨by show ¬ 0 = 13; omega, by show ¬ 0 = 14; omega⟩
  · have h : (if w = 37 then 0 else if w = 12 then 1 else 2) ≤ 1 := h
    refine ⟨fun z => ?_, fun z => ?_⟩
    · have z : w = 13 := z
      rw [z] at h; exact absurd h (by decide)
    · have z : w = 14 := z
      rw [z] at h; exact absurd h (by decide)
theorem hW_0 {W : List Nat} (h : hW W = 0) : W = [] ∨ ∃ W', W = 37 :: W' := by
  rcases W with _ | ⟨w, W⟩
  · exact .inl rfl
  · have h : (if w = 37 then 0 else if w = 12 then 1 else 2) = 0 := h
    by_cases q : w = 37
    · exact .inr ⟨W, by rw [q]⟩
    · rw [if_neg q] at h
      split at h <;> omega
theorem e3_joinsF {σ : z_M} (h2 : ¬ σ 101 2 = 0) : f3_joins σ = some (0, σ) := by
  unfold f3_joins
  rw [show z_fu = 999 + 1 from rfl]
  unfold f3_joins_L2
  rw [if_neg h2, ite_self]
/-- behind a C: σ1 is the class's memory once its nots are settled -/
theorem r_joins {f : Nat} (hB : TkB n b N P K V L) : ∀ (r x m q v c kk : Nat) (W : List Nat) (σ σ1 τ : z_M), N - x = r → r < m → r < q → v ≤ x → kk ≤ 26 → (∀ (u : Int32) j, u = 12 ∨ u = 13 → f3_settle_L0 (j + kk) u σ = f3_settle_L0 j u σ1) → AC N K V L x σ → σ 101 2 = 0 → Bo n N b P K V L x σ1 τ → SQ f c W σ1 τ → ¬ hd W = 14 → c + W.length ≤ x →
    (∃ σ' τ' x' W' c' q', x < x' ∧ c ≤ c' ∧ q + x ≤ q' + x' ∧ f3_joins_L2 m (nI v) σ = some (1, σ') ∧ f12_readAny_L9 q (nI (cP W)) 0 τ = f12_readAny_L9 q' (nI (cP W')) 1 τ' ∧ OPs n N b P K V L f c' x' W' σ' τ' ∧ VF c σ1 τ σ' τ') ∨ (∃ σ' τ' x' c', x ≤ x' ∧ c ≤ c' ∧ c' ≤ x' ∧ f3_joins_L2 m (nI v) σ = some (0, σ') ∧ f12_readAny_L9 q (nI (cP W)) 0 τ = some (0, τ') ∧ BL n N b P K V L f c' x' [true] σ' τ' ∧ τ' 0 29 = 0 ∧ VF c σ1 τ σ' τ') ∨ ∃ σ' τ', f3_joins_L2 m (nI v) σ = some (0, σ') ∧ f12_readAny_L9 q (nI (cP W)) 0 τ = some (-1, τ') ∧ FA N K V L σ1 τ σ' τ' := by
  intro r
  induction r using Nat.strongRecOn with
  | ind r ih =>
  intro x m q v c kk W σ σ1 τ hr hm hq hv hkk hlag hAC h2 h hSQ hnd hcx
  obtain ⟨hx, hN⟩ := Bo_N hB h
  obtain ⟨m, rfl⟩ : ∃ z, m = z + 1 := ⟨m - 1, by omega⟩
  obtain ⟨q, rfl⟩ : ∃ z, q = z + 1 := ⟨q - 1, by omega⟩
  have hfu : z_fu = 1000 := rfl
  have hWl := (Sw_len hSQ.2.2.1 hSQ.2.2.2.1).1
  -- the ands, then the ors
  obtain ⟨k1, W1, σ2, τ2, a1, a2, a3, a4, a5, a6, a7, a8, a9, a10⟩ := r_drop (n := n) (N := N) (b := b) (P := P) (K := K) (V := V) (L := L) (w0 := 13) (.inr (.inl rfl)) W c σ1 τ hSQ (by omega)
  have hd14 : ¬ hd W1 = 14 := by
    rcases a3 with z | z
    · rw [z]; exact hnd
    · rcases z.1 with z | z | z | z
      · omega
      · omega
      · exact (hW_hd z.2).2
      · omega
  obtain ⟨hW1, hW1'⟩ := hW_1 a7.2.2.1.1 a2 hd14
  obtain ⟨k2, W2, σ3, τ3, b1, b2, b3, b4, b5, b6, b7, b8, b9, b10⟩ := r_drop (n := n) (N := N) (b := b) (P := P) (K := K) (V := V) (L := L) (w0 := 12) (.inl rfl) W1 (c + k1) σ2 τ2 a7 (by omega)
  have hW2 : hW W2 = 0 := by
    rcases b3 with z | z
    · rcases hW1' with y | y | y
      · rw [z, y]; rfl
      · rw [← z] at y
        rcases W2 with _ | ⟨w, W2⟩
        · rfl
        · have y : w = 37 := y
          show (if w = 37 then 0 else if w = 12 then 1 else 2) = 0
          rw [if_pos y]
      · rw [← z] at y; exact absurd y b2
    · rcases z.1 with z | z | z | z
      · omega
      · omega
      · omega
      · exact z.2
  have n13 : ¬ nI 13 < 13 := by decide
  have n13' : ¬ nI 13 < 12 := by decide
  have n12 : ¬ nI 12 < 12 := by decide
  have hs13 : f3_settle 13 σ = some ((), σ2) := by
    unfold f3_settle
    rw [hfu, show 1000 = 999 - kk - k1 + 1 + k1 + kk by omega, hlag 13 _ (.inr rfl), a5 13 _ n13]
    refine e3_stop a7.2.2.1 a7.2.2.2.1 ?_
    rcases hW1' with z | z | z
    · exact .inl z
    · exact .inr (.inl z)
    · right; right
      rw [z]; decide
  have hs12 : f3_settle 12 σ = some ((), σ3) := by
    unfold f3_settle
    rw [hfu, show 1000 = 999 - kk - k1 - k2 + 1 + k2 + k1 + kk by omega, hlag 12 _ (.inl rfl), a5 12 _ n13', b5 12 _ n12]
    refine e3_stop b7.2.2.1 b7.2.2.2.1 ?_
    rcases hW_0 hW2 with z | ⟨W', z⟩
    · exact .inl z
    · exact .inr (.inl (by rw [z]; rfl))
  have ht10 : f12_settles 10 τ = some ((), τ2) := by
    unfold f12_settles
    rw [hfu, show 1000 = 999 - k1 + k1 + 1 by omega]
    exact a6 _
  have ht11 : f12_settles 11 τ2 = some ((), τ3) := by
    unfold f12_settles
    rw [hfu, show 1000 = 999 - k2 + k2 + 1 by omega]
    exact b6 _
  have hB2 : Bo n N b P K V L x σ2 τ2 := ⟨a9 x h.1, a10 x h.2.1, by rw [a8.2.1 2 (by omega) (by omega) (by omega)]; exact h.2.2⟩
  have hB3 : Bo n N b P K V L x σ3 τ3 := ⟨b9 x hB2.1, b10 x hB2.2.1, by rw [b8.2.1 2 (by omega) (by omega) (by omega)]; exact hB2.2.2⟩
  have hV3 : VF c σ1 τ σ3 τ3 := VF_trans (by omega) a8 b8
  have hcl : f3_joins_L2 (m + 1) (nI v) σ = if K x = 13 then f3_joins_J33 (K x) σ else if K x = 12 then f3_joins_J33 (K x) σ else if σ3 101 8 = 0 then some (0, σ3) else if K x = 38 then f3_joins_L2 m (nI (v + 1)) (z_set (z_set (z_set σ3 101 8 (σ3 101 8 - 1)) 101 9 (σ3 101 9 - 1)) 101 4 (nI (x + 1))) else f3_joins_J65 σ3 := by
    conv => lhs; unfold f3_joins_L2
    rw [if_neg (show ¬ 400 < nI v from nI_nlt (a := 400) (b := v) (by omega) (by omega)), if_pos h2, e3_kind hAC hN, q_bnd, hs12, q_bnd, q_let, q_let, q_let, s_kn (show 9 ≠ 8 by omega), s_kn (show 4 ≠ 9 by omega), s_kn (show 4 ≠ 8 by omega), hB3.1.2.1, nI_1, nI_1]
  have w5 : f12_isWord 5 τ = some (if K x = 13 then 1 else 0, τ) := e12_isWord (j := 13) h.2.1 (by omega)
  have w4 : f12_isWord 4 τ = some (if K x = 12 then 1 else 0, τ) := e12_isWord (j := 12) h.2.1 (by omega)
  have hreft : f12_readAny_L9 (q + 1) (nI (cP W)) 0 τ = if K x = 13 then z_bnd (f12_waits 10 τ2) fun _ σ28 => z_bnd (f12_reads σ28) fun _ σ30 => f12_readAny_L9 q (nI (cP W)) 1 σ30 else if K x = 12 then z_bnd (f12_waits 11 τ3) fun _ σ22 => z_bnd (f12_reads σ22) fun _ σ24 => f12_readAny_L9 q (nI (cP W)) 1 σ24 else if nI (cP W) = 0 then some (0, τ3) else z_bnd (f12_isSign 41 τ3) fun r9 σ10 => if r9 = 0 then f12_readAny_J200 σ10 else z_bnd (f12_settles 9 (z_set (z_set σ10 0 31 (σ10 0 31 - 1)) 0 29 (σ10 0 29 - 1))) fun _ σ14 => z_bnd (f12_reads σ14) fun _ σ16 => f12_readAny_L9 q (nI (cP W) - 1) 0 σ16 := by
    conv => lhs; unfold f12_readAny_L9
    rw [i_00, w5, q_bnd]
    by_cases q13 : K x = 13
    · rw [if_pos q13, if_pos q13, i_10, ht10, q_bnd]
    · rw [if_neg q13, if_neg q13, i_00, w4, q_bnd]
      by_cases q12 : K x = 12
      · rw [if_pos q12, if_pos q12, i_10, ht10, q_bnd, ht11, q_bnd]
      · rw [if_neg q12, if_neg q12, i_00, ht10, q_bnd, ht11, q_bnd]
        rfl
  rw [hcl, hreft]
  by_cases q13 : K x = 13
  · left
    obtain ⟨τ', p1, p2, p3, p4, p5, p6, p7, p8, p9, p10⟩ := r_push (w := 13) (W := W1) hB hB2 a7.2.2.1 (by omega) q13 ⟨.inr (.inr (.inl ⟨rfl, hW1⟩)), a7.2.2.1.1⟩
    have p2 : f12_waits 10 τ2 = some ((), WM W1.length (nI (rop 13)) τ2) := p2
    have eJ : cJ (13 :: W1) = cJ W1 + 1 := by show 1 + cJ W1 = _; omega
    have eO : cO (13 :: W1) = cO W1 := by show 0 + cO W1 = _; omega
    have eP : cP (13 :: W1) = cP W1 := by show 0 + cP W1 = _; omega
    rw [if_pos q13, if_pos q13, p2, q_bnd, p3, q_bnd]
    refine ⟨WC x W1.length (nI 13) σ2, τ', x + 1, 13 :: W1, c + k1, q, by omega, by omega, by omega, ?_, by rw [eP, a4], ⟨⟨p4, p7 _ a7.1, ?_⟩, p5, ?_, ?_⟩, VF_trans (by omega) a8 (p6 (c + k1))⟩
    · unfold f3_joins_J33
      rw [q13, hs13, q_bnd, p1, q_bnd]
    · rw [p8, eJ, tr_s]; exact a7.2.1
    · rw [eO]; exact Op_cong a7.2.2.2 p9 p10
    · show c + k1 + (W1.length + 1) ≤ x + 1
      omega
  · rw [if_neg q13, if_neg q13]
    by_cases q12 : K x = 12
    · left
      obtain ⟨τ', p1, p2, p3, p4, p5, p6, p7, p8, p9, p10⟩ := r_push (w := 12) (W := W2) hB hB3 b7.2.2.1 (by omega) q12 ⟨.inr (.inr (.inr ⟨rfl, hW2⟩)), b7.2.2.1.1⟩
      have p2 : f12_waits 11 τ3 = some ((), WM W2.length (nI (rop 12)) τ3) := p2
      have eJ : cJ (12 :: W2) = cJ W2 + 1 := by show 1 + cJ W2 = _; omega
      have eO : cO (12 :: W2) = cO W2 := by show 0 + cO W2 = _; omega
      have eP : cP (12 :: W2) = cP W2 := by show 0 + cP W2 = _; omega
      rw [if_pos q12, if_pos q12, p2, q_bnd, p3, q_bnd]
      refine ⟨WC x W2.length (nI 12) σ3, τ', x + 1, 12 :: W2, c + k1 + k2, q, by omega, by omega, by omega, ?_, by rw [eP, b4, a4], ⟨⟨p4, p7 _ b7.1, ?_⟩, p5, ?_, ?_⟩, VF_trans (by omega) hV3 (p6 (c + k1 + k2))⟩
      · unfold f3_joins_J33
        rw [q12, hs12, q_bnd, p1, q_bnd]
      · rw [p8, eJ, tr_s]; exact b7.2.1
      · rw [eO]; exact Op_cong b7.2.2.2 p9 p10
      · show c + k1 + k2 + (W2.length + 1) ≤ x + 1
        omega
    · rw [if_neg q12, if_neg q12]
      have hcP : cP W = cP W2 := by rw [b4, a4]
      rcases hW_0 hW2 with z | ⟨W4, z⟩
      · -- nothing waits: the condition ends
        right; left
        subst z
        have t0 : σ3 101 8 = 0 := b7.2.2.1.2.2.1
        have c0 : nI (cP W) = 0 := by rw [hcP]; rfl
        rw [if_pos t0, if_pos c0]
        exact ⟨σ3, τ3, x, c + k1 + k2, Nat.le_refl x, by omega, by omega, rfl, rfl, ⟨hB3, b7.1, b7.2.1⟩, b7.2.2.2.2.2, hV3⟩
      · subst z
        have eP : cP (37 :: W4) = 1 + cP W4 := rfl
        have eO : cO (37 :: W4) = 1 + cO W4 := rfl
        have eJ : cJ (37 :: W4) = cJ W4 := by show 0 + cJ W4 = _; omega
        have eL : (37 :: W4).length = W4.length + 1 := rfl
        obtain ⟨s1, s2, ⟨s3, s4, s5, s6⟩, s7, s8, s9⟩ := b7
        have hc4 := wR_count (37 :: W4) s3
        rw [eL] at s5 s6 b1
        rw [eO] at s7 s8 s9
        rw [eP, eO] at hc4
        have e1 : ∀ k : Nat, nI (k + 1) - 1 = nI k := fun k => by rw [l_1, pk_sub (by omega), Nat.add_sub_cancel]
        have t0 : ¬ σ3 101 8 = 0 := by
          rw [s5]
          intro z
          have z : nI (W4.length + 1) = nI 0 := z
          rw [nI_eq (by omega) (by omega)] at z; omega
        have c0 : ¬ nI (cP W) = 0 := by
          rw [hcP, eP]
          intro z
          have z : nI (1 + cP W4) = nI 0 := z
          rw [nI_eq (by omega) (by omega)] at z; omega
        have w41 : f12_isSign 41 τ3 = some (if K x = 38 then 1 else 0, τ3) := e12_isSign (j := 6) hB3.2.1 (by omega)
        rw [if_neg t0, if_neg c0, w41, q_bnd]
        by_cases q38 : K x = 38
        · have hlt := x_lt hB hx (by rw [q38]; decide)
          rw [if_pos q38, if_pos q38, i_10, s5, s6, s8, s9, hcP, eP, Nat.add_comm 1 (cO W4), Nat.add_comm 1 (cP W4), e1, e1, e1]
          -- the ( is gone
          have hSQ4 : SQ f (c + k1 + k2) W4 (z_set (z_set (z_set σ3 101 8 (nI W4.length)) 101 9 (nI (cO W4))) 101 4 (nI (x + 1))) (z_set (z_set τ3 0 31 (nI W4.length)) 0 29 (nI (cO W4))) := by
            refine ⟨CD_cong s1 (by rw [s_ne (by omega), s_ne (by omega), s_ne (by omega)]) (by rw [s_ne (by omega), s_ne (by omega), s_ne (by omega)]) (by rw [s_kn (by omega), s_kn (by omega)]) (by rw [s_ne (by omega), s_ne (by omega)]) (by rw [s_ne (by omega), s_ne (by omega)]), ?_, ⟨s3.2, ?_, ?_, ?_⟩, by omega, ?_, s_eq⟩
            · rw [s_ne (by omega), s_ne (by omega), s_ne (by omega)]
              rw [eJ] at s2; exact s2
            · rw [s_ne (by omega), s_ne (by omega), s_ne (by omega), s_ne (by omega), s_ne (by omega)]
              exact s4.2.2
            · rw [s_kn (by omega), s_kn (by omega), s_eq]
            · rw [s_kn (by omega), s_eq]
            · rw [s_kn (by omega), s_eq]
          have hAC4 : AC N K V L (x + 1) (z_set (z_set (z_set σ3 101 8 (nI W4.length)) 101 9 (nI (cO W4))) 101 4 (nI (x + 1))) := ⟨hlt, s_eq, by rw [s_ne (by omega), s_ne (by omega), s_ne (by omega)]; exact hB3.1.2.2.1, by rw [s_ne (by omega), s_ne (by omega), s_ne (by omega)]; exact hB3.1.2.2.2.1, by rw [s_ne (by omega), s_ne (by omega), s_ne (by omega)]; exact hB3.1.2.2.2.2⟩
          have hAM4 : AM n b P K V L x (z_set (z_set τ3 0 31 (nI W4.length)) 0 29 (nI (cO W4))) := AM_cong hB3.2.1 (by rw [s_ne (by omega), s_ne (by omega)]) (by rw [s_ne (by omega), s_ne (by omega)]) (fun k _ _ => by rw [s_kn (by omega), s_kn (by omega)])
          have h24 : z_set (z_set (z_set σ3 101 8 (nI W4.length)) 101 9 (nI (cO W4))) 101 4 (nI (x + 1)) 101 2 = 0 := by rw [s_kn (by omega), s_kn (by omega), s_kn (by omega)]; exact hB3.2.2
          have hV4 : VF c σ1 τ (z_set (z_set (z_set σ3 101 8 (nI W4.length)) 101 9 (nI (cO W4))) 101 4 (nI (x + 1))) (z_set (z_set τ3 0 31 (nI W4.length)) 0 29 (nI (cO W4))) := VF_trans (Nat.le_refl c) hV3 (VF_trans (Nat.le_refl c) (VF_101 (.inr (.inl rfl))) (VF_trans (Nat.le_refl c) (VF_101 (.inr (.inr rfl))) (VF_trans (Nat.le_refl c) (VF_101 (.inl rfl)) (VF_trans (Nat.le_refl c) (VF_0 (.inr (.inr rfl))) (VF_0 (.inr (.inl rfl)))))))
          generalize z_set (z_set (z_set σ3 101 8 (nI W4.length)) 101 9 (nI (cO W4))) 101 4 (nI (x + 1)) = σ7 at hSQ4 hAC4 h24 hV4
          generalize z_set (z_set τ3 0 31 (nI W4.length)) 0 29 (nI (cO W4)) = τ12 at hSQ4 hAM4 hV4
          obtain ⟨k3, W5, σ8, τ14, d1, d2, d3, d4, d5, d6, d7, d8, d9, d10⟩ := r_drop (n := n) (N := N) (b := b) (P := P) (K := K) (V := V) (L := L) (w0 := 14) (.inr (.inr rfl)) W4 (c + k1 + k2) σ7 τ12 hSQ4 (by omega)
          have ht9 : f12_settles 9 τ12 = some ((), τ14) := by
            unfold f12_settles
            rw [hfu, show 1000 = 999 - k3 + k3 + 1 by omega]
            exact d6 _
          obtain ⟨τ16, y1, y2, y3⟩ := AM_next hB (d10 x hAM4) hlt
          rw [ht9, q_bnd, y1, q_bnd, ← d4]
          have hV8 : VF c σ1 τ σ8 τ16 := VF_trans (c' := c + k1 + k2) (by omega) hV4 (VF_trans (Nat.le_refl _) d8 (VF_SF (SF_tok (QF_refl _) y2)))
          have hSQ5 : SQ f (c + k1 + k2 + k3) W5 σ8 τ16 := ⟨CD_cong d7.1 rfl rfl (y2.2 28 (by omega)) (y2.1 14 (by omega)) (y2.1 15 (by omega)), d7.2.1, Sw_cong d7.2.2.1 rfl rfl (y2.1 16 (by omega)) (y2.2 31 (by omega)), Op_cong d7.2.2.2 rfl (y2.2 29 (by omega))⟩
          have n14 : ∀ u : Int32, u = 12 ∨ u = 13 → ¬ nI 14 < u := fun u hu => by rcases hu with rfl | rfl <;> decide
          rcases ih (N - (x + 1)) (by omega) (x + 1) m q (v + 1) (c + k1 + k2 + k3) k3 W5 σ7 σ8 τ16 rfl (by omega) (by omega) (by omega) (by omega) (fun u j hu => d5 u j (n14 u hu)) hAC4 h24 ⟨d9 _ hAC4, y3, by rw [d8.2.1 2 (by omega) (by omega) (by omega)]; exact h24⟩ hSQ5 d2 (by omega) with ⟨σ', τ', x', W', c', q', c1, c2, c3, c4, c5, c6, c7⟩ | ⟨σ', τ', x', c', c1, c2, c3, c4, c5, c6, c7, c8⟩ | ⟨σ', τ', c1, c2, c3⟩
          · exact .inl ⟨σ', τ', x', W', c', q', by omega, by omega, by omega, c4, c5, c6, VF_trans (by omega) hV8 c7⟩
          · exact .inr (.inl ⟨σ', τ', x', c', by omega, by omega, c3, c4, c5, c6, c7, VF_trans (by omega) hV8 c8⟩)
          · exact .inr (.inr ⟨σ', τ', c1, c2, FA_VF hV8 ⟨_, by omega, hSQ5.1.1⟩ c3⟩)
        · right; right
          unfold f3_joins_J65 f12_readAny_J200
          rw [if_neg q38, if_neg q38, i_00, Bo_fail 1 hB hB3, q_bnd, Bo_errs hB3, q_bnd]
          exact ⟨_, _, rfl, rfl, FA_VF hV3 ⟨_, by omega, s1.1⟩ (FA_here hB3.1 (by decide))⟩
end
