/-! the inspector; a whole week; weeks -/
def ovB (d : Nat → Int32) (mo h : Nat) : Bool := decide (mo < pc (sN d h))
def foN (p : Nat → Bool) : Nat → Nat → Int32
  | 0, _ => -1
  | r + 1, k => if p k = true then nI k else foN p r (k + 1)
theorem foN_none {p : Nat → Bool} : ∀ {r k : Nat}, k + r ≤ 8 → (foN p r k = -1 ↔ ∀ i, k ≤ i → i < k + r → p i = false)
  | 0, k, _ => ⟨fun _ i a b => absurd b (by omega), fun _ => rfl⟩
  | r + 1, k, h => by
    have ih := foN_none (p := p) (r := r) (k := k + 1) (by omega)
    unfold foN
    by_cases c : p k = true
    · rw [if_pos c]
      refine ⟨fun q => absurd q (q_neg (by omega)), fun q => ?_⟩
      have := q k (by omega) (by omega)
      rw [c] at this; exact absurd this (by decide)
    · rw [if_neg c, ih]
      refine ⟨fun q i a b => ?_, fun q i a b => q i (by omega) (by omega)⟩
      by_cases e : i = k
      · rw [e]; simpa using c
      · exact q i (by omega) (by omega)
theorem cN_zero {p : Nat → Bool} : ∀ {k : Nat}, cN p k = 0 ↔ ∀ i, i < k → p i = false
  | 0 => ⟨fun _ i hi => absurd hi (by omega), fun _ => rfl⟩
  | k + 1 => by
    have ih := cN_zero (p := p) (k := k)
    rw [cN_s]
    constructor
    · intro h i hi
      have h1 : cN p k = 0 := by omega
      by_cases e : i = k
      · rw [e]
        cases hp : p k with
        | false => rfl
        | true => rw [hp, if_pos rfl] at h; omega
      · exact ih.mp h1 i (by omega)
    · intro h
      rw [ih.mpr (fun i hi => h i (by omega)), h k (by omega), if_neg (by decide)]
theorem e12_insL12 {H mo : Nat} {d : Nat → Int32} (hH : H ≤ 8) (hmo : mo ≤ 8) : ∀ (j g : Nat) (τ : z_M), j ≤ H → j < g → τ 0 7 + 3 = nI mo → (∀ i, i < 64 → τ 1 (4 + i) = d i - 50) → τ 0 44 = foN (ovB d mo) (H - j) j → ∃ τ', f12_inspects_L12 g (nI j - 1) τ = f12_inspects_J43 τ' ∧ (∀ c, c ≠ 0 → τ' c = τ c) ∧ (∀ k, k ≠ 44 → τ' 0 k = τ 0 k) ∧ τ' 0 44 = foN (ovB d mo) H 0
  | 0, g, τ, h1, h2, em, hd, h44 => by
    obtain ⟨g, rfl⟩ : ∃ m, g = m + 1 := ⟨g - 1, by omega⟩
    refine ⟨τ, ?_, fun _ _ => rfl, fun _ _ => rfl, h44⟩
    unfold f12_inspects_L12
    rw [if_pos (by decide)]
  | j + 1, g, τ, h1, h2, em, hd, h44 => by
    obtain ⟨g, rfl⟩ : ∃ m, g = m + 1 := ⟨g - 1, by omega⟩
    have hp := pc_le (sN d j)
    have hf : foN (ovB d mo) (H - j) j = if ovB d mo j = true then nI j else foN (ovB d mo) (H - (j + 1)) (j + 1) := by
      rw [show H - j = (H - (j + 1)) + 1 by omega]; rfl
    have em1 : nI j + (-1) = nI j - 1 := by
      apply Int32.toBitVec_inj.mp
      simp [BitVec.sub_eq_add_neg]
    unfold f12_inspects_L12 f12_most
    rw [nI_pred j, if_neg (nI_pos (by omega)), e12_suresOf (by omega) τ hd, q_bnd, e12_onesOf (sN_lt _ _), q_bnd, q_bnd, em, em1]
    by_cases c : mo < pc (sN d j)
    · have hov : ovB d mo j = true := decide_eq_true c
      rw [if_pos (nI_lt c (by omega)), q_let]
      obtain ⟨τ', x1, x2, x3, x4⟩ := e12_insL12 hH hmo j g (z_set τ 0 44 (nI j)) (by omega) (by omega) (by rw [s_kn (by omega)]; exact em) (fun i hi => by rw [s_ne (by omega)]; exact hd i hi) (by rw [s_eq, hf, if_pos hov])
      exact ⟨τ', x1, fun c hc => (x2 c hc).trans (s_ne hc), fun k hk => (x3 k hk).trans (s_kn hk), x4⟩
    · have hov : ¬ ovB d mo j = true := by unfold ovB; simpa using c
      rw [if_neg (nI_nlt (by omega) (by omega))]
      exact e12_insL12 hH hmo j g τ (by omega) (by omega) em hd (by rw [hf, if_neg hov]; exact h44)
/-- the inspector's walk, on both sides; σ0, τ0 where it began -/
theorem e_insL {s b H mo : Nat} {σ0 τ0 : z_M} {d : Nat → Int32} (hH : H ≤ 8) (hmo : mo ≤ 8) (ed : σ0 (b + 1) = d) (hb : b = 18 ∨ b = 52) (eh : σ0 1 0 = nI H) (ehm : τ0 0 6 = nI H) (em : σ0 1 1 = nI mo) (emm : τ0 0 7 + 3 = nI mo) (hd : ∀ i, i < 64 → τ0 1 (4 + i) = d i - 50) (hw : τ0 1 0 = σ0 b 6) : ∀ (r k f g n : Nat) (σ τ : z_M), k + r = H → r < f → r < g → SA s b σ τ → n ≤ 150 → σ b 8 = nI n → τ 1 2 = nI n → (∀ c, c ≠ b → c ≠ 17 → σ c = σ0 c) → (∀ k, k ≠ 8 → σ b k = σ0 b k) → (∀ c, c ≠ 1 → c ≠ 6 → τ c = τ0 c) → (∀ k, k ≠ 2 → k ≠ 3 → τ 1 k = τ0 1 k) → τ 1 3 = τ0 1 3 + nI (cN (ovB d mo) k) → (s = 51 → σ 17 = σ0 17 ∧ τ 6 = τ0 6) → ∃ n' σ' τ', f7_inspect_L4 f s (nI (cN (ovB d mo) k)) (nI k) σ = f7_inspect_J51 s (nI (cN (ovB d mo) H)) σ' ∧ f12_inspects_L45 g (nI k) τ = some ((), τ') ∧ SA s b σ' τ' ∧ n' ≤ 150 ∧ σ' b 8 = nI n' ∧ τ' 1 2 = nI n' ∧ (∀ c, c ≠ b → c ≠ 17 → σ' c = σ0 c) ∧ (∀ k, k ≠ 8 → σ' b k = σ0 b k) ∧ (∀ c, c ≠ 1 → c ≠ 6 → τ' c = τ0 c) ∧ (∀ k, k ≠ 2 → k ≠ 3 → τ' 1 k = τ0 1 k) ∧ τ' 1 3 = τ0 1 3 + nI (cN (ovB d mo) H) ∧ (s = 51 → σ' 17 = σ0 17 ∧ τ' 6 = τ0 6)
  | 0, k, f, g, n, σ, τ, h1, h2, h3, hA, hn, a1, a2, a3, a4, a5, a6, a7, a8 => by
    obtain ⟨f, rfl⟩ : ∃ m, f = m + 1 := ⟨f - 1, by omega⟩
    obtain ⟨g, rfl⟩ : ∃ m, g = m + 1 := ⟨g - 1, by omega⟩
    obtain rfl : k = H := by omega
    refine ⟨n, σ, τ, ?_, ?_, hA, hn, a1, a2, a3, a4, a5, a6, a7, a8⟩
    · unfold f7_inspect_L4
      rw [a3 1 (by omega) (by omega), eh, if_neg (nI_nlt (by omega) (by omega))]
    · unfold f12_inspects_L45
      rw [a5 0 (by omega) (by omega), ehm, if_neg (nI_nlt (by omega) (by omega))]
  | r + 1, k, f, g, n, σ, τ, h1, h2, h3, hA, hn, a1, a2, a3, a4, a5, a6, a7, a8 => by
    obtain ⟨f, rfl⟩ : ∃ m, f = m + 1 := ⟨f - 1, by omega⟩
    obtain ⟨g, rfl⟩ : ∃ m, g = m + 1 := ⟨g - 1, by omega⟩
    obtain ⟨sb, -, -⟩ := SA_sb hA
    have hp := pc_le (sN d k)
    have hd' : ∀ i, i < 64 → τ 1 (4 + i) = d i - 50 := fun i hi => by rw [a6 _ (by omega) (by omega)]; exact hd i hi
    have e1 : σ (b + 1) = d := by rw [a3 (b + 1) (by omega) (by omega)]; exact ed
    unfold f7_inspect_L4 f12_inspects_L45 f12_most
    rw [a3 1 (by omega) (by omega), eh, if_pos (nI_lt (by omega) (by omega)), sb, e0_sures (by omega), e1, q_bnd, a5 0 (by omega) (by omega), ehm, if_pos (nI_lt (by omega) (by omega)), e12_suresOf (by omega) τ hd', q_bnd, e12_onesOf (sN_lt _ _), q_bnd, q_bnd, a3 1 (by omega) (by omega), em, a5 0 (by omega) (by omega), emm, nI_1, nI_1]
    by_cases c : mo < pc (sN d k)
    · have hov : ovB d mo k = true := decide_eq_true c
      have hcn : cN (ovB d mo) (k + 1) = cN (ovB d mo) k + 1 := by rw [cN_s, if_pos hov]
      rw [if_pos (nI_lt c (by omega)), if_pos (nI_lt c (by omega)), q_chk _ (by decide), q_chk _ (by decide), show z_ix 3 = 3 from rfl, q_let]
      have hd2 : ∀ i, i < 64 → z_set τ 1 3 (τ 1 3 + 1) 1 (4 + i) = d i - 50 := fun i hi => by rw [s_kn (by omega)]; exact hd' i hi
      have hA2 : SA s b σ (z_set τ 1 3 (τ 1 3 + 1)) := SA_cong hA rfl rfl rfl (by rw [s_ne (by omega)]) (s_ne (by omega))
      obtain ⟨σ1, τ1, n1, x1, x2, x3, x4, x5, x6, x7, x8, x9, x10, x11⟩ := e_note hA2 hn a1 (by rw [s_kn (by omega)]; exact a2) (by rw [s_kn (by omega), a6 0 (by omega) (by omega), a4 6 (by omega)]; exact hw) 5 (nI k) (nI (pc (sN d k)))
      rw [e12_suresOf (by omega) _ hd2, q_bnd, e12_onesOf (sN_lt _ _), q_bnd, x1, x2, q_bnd, q_bnd, ← hcn]
      exact e_insL hH hmo ed hb eh ehm em emm hd hw r (k + 1) f g n1 σ1 τ1 (by omega) (by omega) (by omega) x3 x4 x5 x6 (fun c p q => (x7 c p q).trans (a3 c p q)) (fun k p => (x8 k p).trans (a4 k p)) (fun c p q => (x9 c p q).trans ((s_ne p).trans (a5 c p q))) (fun k p q => (x10 k p).trans ((s_kn q).trans (a6 k p q))) (by rw [x10 3 (by omega), s_eq, a7, hcn, ← nI_1, Int32.add_assoc]) (fun q => ⟨(x11 q).1.trans (a8 q).1, (x11 q).2.trans ((s_ne (by omega)).trans (a8 q).2)⟩)
    · have hov : ¬ ovB d mo k = true := by unfold ovB; simpa using c
      have hcn : cN (ovB d mo) (k + 1) = cN (ovB d mo) k := by rw [cN_s, if_neg hov]; rfl
      rw [if_neg (nI_nlt (by omega) (by omega)), if_neg (nI_nlt (by omega) (by omega)), ← hcn]
      exact e_insL hH hmo ed hb eh ehm em emm hd hw r (k + 1) f g n σ τ (by omega) (by omega) (by omega) hA hn a1 a2 a3 a4 a5 a6 (by rw [hcn]; exact a7) a8
theorem e7_firstL {s b H mo : Nat} {d : Nat → Int32} {σ : z_M} (sb : z_sb s = b) (hH : H ≤ 8) (hmo : mo ≤ 8) (ed : σ (b + 1) = d) (eh : σ 1 0 = nI H) (em : σ 1 1 = nI mo) : ∀ (r k f : Nat), k + r = H → r < f → f7_firstOver_L2 f s (nI k) σ = some (foN (ovB d mo) r k, σ)
  | 0, k, f, h1, h2 => by
    obtain ⟨f, rfl⟩ : ∃ m, f = m + 1 := ⟨f - 1, by omega⟩
    unfold f7_firstOver_L2
    rw [eh, if_neg (nI_nlt (by omega) (by omega))]; rfl
  | r + 1, k, f, h1, h2 => by
    obtain ⟨f, rfl⟩ : ∃ m, f = m + 1 := ⟨f - 1, by omega⟩
    have hp := pc_le (sN d k)
    have ih := e7_firstL sb hH hmo ed eh em r (k + 1) f (by omega) (by omega)
    unfold f7_firstOver_L2 foN
    rw [eh, if_pos (nI_lt (by omega) (by omega)), sb, e0_sures (by omega), ed, q_bnd, em, nI_1]
    by_cases c : mo < pc (sN d k)
    · have hov : ovB d mo k = true := decide_eq_true c
      rw [if_pos (nI_lt c (by omega)), if_pos hov]
    · have hov : ¬ ovB d mo k = true := by unfold ovB; simpa using c
      rw [if_neg (nI_nlt (by omega) (by omega)), if_neg hov]; exact ih
/-- a whole week -/
theorem e_pass {s b H W : Nat} {σ τ : z_M} (hA : SA s b σ τ) (hB : SB b H W σ τ) (hG : SG H σ τ) : ∃ c σ' τ', c ≤ 8 ∧ f7_pass s σ = some (nI c, σ') ∧ f12_goesBy τ = some ((), τ') ∧ ST s b H (W + 1) σ τ σ' τ' ∧ τ' 1 3 = τ 1 3 + nI c ∧ σ' b 6 = σ b 6 + 1 ∧ f7_firstOver s σ' = some (τ' 0 44, σ') ∧ (c = 0 ↔ τ' 0 44 = -1) := by
  obtain ⟨sb, hb, -⟩ := SA_sb hA
  have hH := hG.1.1
  obtain ⟨n, hn, en, -, -⟩ := hG.2.2.2.2
  obtain ⟨σ1, τ1, a1, a2, p1⟩ := e_passL2 n 0 z_fu z_fu σ τ (by omega) (show n < 1000 by omega) (show n < 1000 by omega) hn hA hB hG en
  have g1 := SG_fr hb hG p1.1.2.2
  obtain ⟨σ2, τ2, b1, b2, p2⟩ := e_passL51 H 0 z_fu z_fu σ1 τ1 (by omega) (show H < 1000 by omega) (show H < 1000 by omega) p1.1.1 p1.1.2.1 g1
  have g2 := SG_fr hb g1 p2.1.2.2
  obtain ⟨σ3, τ3, c1, c2, p3⟩ := e_passL75 H 0 z_fu z_fu σ2 τ2 (by omega) (show H < 1000 by omega) (show H < 1000 by omega) p2.1.1 p2.1.2.1 g2
  have g3 := SG_fr hb g2 p3.1.2.2
  obtain ⟨σ4, τ4, d1, d2, p4⟩ := e_freeze p3.1.1 p3.1.2.1 g3
  have g4 := SG_fr hb g3 p4.1.2.2
  obtain ⟨σ5, τ5, e1, e2, p5⟩ := e_fly p4.1.1 p4.1.2.1 g4
  have g5 := SG_fr hb g4 p5.1.2.2
  have p := SP_trans p1 (SP_trans p2 (SP_trans p3 (SP_trans p4 p5)))
  have hA5 := p5.1.1
  have hB5 := p5.1.2.1
  obtain ⟨⟨w1, w2, w3, w4⟩, ⟨w, hw, ew⟩, ⟨le, hle, ele⟩, wd, -, -⟩ := hB5
  obtain ⟨mo, hmo, emo⟩ := g5.1.2.2.2.1
  have emm : τ5 0 7 + 3 = nI mo := by rw [g5.1.2.2.2.2.1, q_sub_add]; exact emo
  have hdd : ∀ i, i < 64 → τ5 1 (4 + i) = σ5 (b + 1) i - 50 := fun i hi => (wd i hi).1
  obtain ⟨τ6, f1, f2, f3, f4⟩ := e12_insL12 (d := σ5 (b + 1)) hH hmo H z_fu (z_set τ5 0 44 (-1)) (Nat.le_refl H) (show H < 1000 by omega) (by rw [s_kn (by omega)]; exact emm) (fun i hi => by rw [s_ne (by omega)]; exact hdd i hi) (by rw [s_eq, Nat.sub_self]; rfl)
  have t6 : ∀ c, c ≠ 0 → τ6 c = τ5 c := fun c hc => (f2 c hc).trans (s_ne hc)
  have t60 : ∀ k, k ≠ 44 → τ6 0 k = τ5 0 k := fun k hk => (f3 k hk).trans (s_kn hk)
  obtain ⟨n', σ7, τ7, i1, i2, i3, i4, i5, i6, i7, i8, i9, i10, i11, i12⟩ := e_insL (s := s) (d := σ5 (b + 1)) hH hmo rfl hb g5.1.2.1 (by rw [t60 6 (by omega)]; exact g5.1.2.2.1) emo (by rw [t60 7 (by omega)]; exact emm) (fun i hi => by rw [t6 1 (by omega)]; exact hdd i hi) (by rw [t6 1 (by omega)]; exact w1) H 0 z_fu z_fu le σ5 τ6 (by omega) (show H < 1000 by omega) (show H < 1000 by omega) (SA_cong hA5 rfl rfl rfl (t60 5 (by omega)) (t6 6 (by omega))) hle ele (by rw [t6 1 (by omega), w3]; exact ele) (fun _ _ _ => rfl) (fun _ _ => rfl) (fun _ _ _ => rfl) (fun _ _ _ => rfl) (by rw [show cN (ovB (σ5 (b + 1)) mo) 0 = 0 from rfl, show nI 0 = (0 : Int32) from rfl, Int32.add_zero]) (fun _ => ⟨rfl, rfl⟩)
  let c := cN (ovB (σ5 (b + 1)) mo) H
  have hc8 : c ≤ 8 := by have := cN_le (ovB (σ5 (b + 1)) mo) H; show cN _ H ≤ 8; omega
  have s7b6 : σ7 b 6 = nI w := by rw [i8 6 (by omega)]; exact ew
  let σ8 := z_set (z_set σ7 b 7 (σ7 b 7 + nI c)) b 6 (nI (w + 1))
  let τ8 := z_set τ7 1 0 (nI (w + 1))
  have t70 : τ7 1 0 = nI w := by rw [i10 0 (by omega) (by omega), t6 1 (by omega), w1]; exact ew
  refine ⟨c, σ8, τ8, hc8, ?_, ?_, ⟨?_, ?_, ?_⟩, ?_, ?_, ?_, ?_⟩
  · unfold f7_pass
    have a1 : f7_pass_L2 z_fu s 0 σ = f7_pass_J49 s σ1 := a1
    have b1 : f7_pass_J49 s σ1 = f7_pass_J73 s σ2 := b1
    have c1 : f7_pass_J73 s σ2 = f7_pass_J116 s σ3 := c1
    have i1 : f7_inspect s σ5 = f7_inspect_J51 s (nI c) σ7 := i1
    rw [a1, b1, c1, d1, e1]
    unfold f7_pass_J158
    rw [i1]
    unfold f7_inspect_J51
    rw [sb, q_let, q_bnd, q_let, s_kn (show 6 ≠ 7 by omega), s7b6, nI_1]
  · unfold f12_goesBy
    have a2 : f12_goesBy_L2 z_fu 0 τ = f12_goesBy_J94 τ1 := a2
    have b2 : f12_goesBy_J94 τ1 = f12_goesBy_J115 τ2 := b2
    have c2 : f12_goesBy_J115 τ2 = f12_goesBy_J145 τ3 := c2
    have i2 : f12_inspects_J43 τ6 = some ((), τ7) := i2
    rw [a2, b2, c2]
    unfold f12_goesBy_J145 f12_inspects
    have eh6 : z_set τ5 0 44 (-1) 0 6 = nI H := by rw [s_kn (by omega)]; exact g5.1.2.2.1
    rw [d2, q_bnd, e2, q_bnd, q_let, eh6, f1, i2, q_bnd, q_chk _ (by decide), q_chk _ (by decide), show z_ix 0 = 0 from rfl, q_let, t70, nI_1]
  · exact SA_cong i3 (by show z_set (z_set σ7 b 7 _) b 6 _ 50 = _; rw [s_ne (by omega), s_ne (by omega)]) (by show z_set (z_set σ7 b 7 _) b 6 _ 51 = _; rw [s_ne (by omega), s_ne (by omega)]) (by show z_set (z_set σ7 b 7 _) b 6 _ 17 = _; rw [s_ne (by omega), s_ne (by omega)]) (by show z_set τ7 1 0 _ 0 5 = _; rw [s_ne (by omega)]) (by show z_set τ7 1 0 _ 6 = _; rw [s_ne (by omega)])
  · have q0 : G_be H W (σ7 b) (σ5 (b + 1)) (σ5 (b + 2)) (σ5 (b + 3)) (σ5 (b + 4)) (σ5 (b + 5)) (upd (τ5 1) 2 (nI n')) := G_be_leaf p5.1.2.1 i8 (fun k a => pk_un a) i4 i5 pk_us
    have q1 := G_be_week (w := w + 1) (W' := W + 1) (G_be_brea q0 (σ7 b 7 + nI c)) (by omega)
    unfold SB
    show G_be H (W + 1) (z_set (z_set σ7 b 7 (σ7 b 7 + nI c)) b 6 (nI (w + 1)) b) (z_set (z_set σ7 b 7 (σ7 b 7 + nI c)) b 6 (nI (w + 1)) (b + 1)) (z_set (z_set σ7 b 7 (σ7 b 7 + nI c)) b 6 (nI (w + 1)) (b + 2)) (z_set (z_set σ7 b 7 (σ7 b 7 + nI c)) b 6 (nI (w + 1)) (b + 3)) (z_set (z_set σ7 b 7 (σ7 b 7 + nI c)) b 6 (nI (w + 1)) (b + 4)) (z_set (z_set σ7 b 7 (σ7 b 7 + nI c)) b 6 (nI (w + 1)) (b + 5)) (z_set τ7 1 0 (nI (w + 1)) 1)
    simp (disch := omega) only [s_ne, s_up]
    rw [i7 (b + 1) (by omega) (by omega), i7 (b + 2) (by omega) (by omega), i7 (b + 3) (by omega) (by omega), i7 (b + 4) (by omega) (by omega), i7 (b + 5) (by omega) (by omega)]
    refine G_be_cong q1 (fun _ _ _ => rfl) (fun _ _ => rfl) (fun _ _ => ⟨rfl, rfl, rfl, rfl⟩) (fun k _ => ?_)
    by_cases k0 : k = 0
    · rw [k0, pk_us, pk_us]
    · rw [pk_un k0, pk_un k0]
      by_cases k3 : k = 3
      · rw [k3, pk_us, i11, i8 7 (by omega), t6 1 (by omega), w4]
      · rw [pk_un k3]
        by_cases k2 : k = 2
        · rw [k2, pk_us, i6]
        · rw [pk_un k2, i10 k k2 k3, t6 1 (by omega)]
  · refine FR_trans p.1.2.2 ⟨fun c a1 a2 a3 a4 => ?_, fun q => ⟨?_, ?_⟩, fun c a1 a2 a3 a4 a5 => ?_, fun k a => ?_⟩
    · show z_set (z_set σ7 b 7 _) b 6 _ c = _
      rw [s_ne (by omega), s_ne (by omega)]; exact i7 c (by omega) a2
    · show z_set (z_set σ7 b 7 _) b 6 _ 17 = _
      rw [s_ne (by omega), s_ne (by omega)]; exact (i12 q).1
    · show z_set τ7 1 0 _ 6 = _
      rw [s_ne (by omega)]; exact (i12 q).2.trans (t6 6 (by omega))
    · show z_set τ7 1 0 _ c = _
      rw [s_ne a2]; exact (i9 c a2 a3).trans (t6 c a1)
    · show z_set τ7 1 0 _ 0 k = _
      rw [s_ne (by omega), i9 0 (by omega) (by omega)]; exact t60 k a
  · show z_set τ7 1 0 _ 1 3 = _
    rw [s_kn (by omega), i11, t6 1 (by omega), w4, p.2.1]
    rw [show τ 1 3 = σ b 7 from hB.1.2.2.2]
  · show z_set (z_set σ7 b 7 _) b 6 _ b 6 = _
    rw [s_eq, ← p.2.2, ew, nI_1]
  · have e44 : τ8 0 44 = foN (ovB (σ5 (b + 1)) mo) H 0 := by
      show z_set τ7 1 0 _ 0 44 = _
      rw [s_ne (by omega), i9 0 (by omega) (by omega)]; exact f4
    rw [e44]
    refine e7_firstL sb hH hmo ?_ ?_ ?_ H 0 z_fu (by omega) (show H < 1000 by omega)
    · show z_set (z_set σ7 b 7 _) b 6 _ (b + 1) = _
      rw [s_ne (by omega), s_ne (by omega)]; exact i7 (b + 1) (by omega) (by omega)
    · show z_set (z_set σ7 b 7 _) b 6 _ 1 0 = _
      rw [s_ne (by omega), s_ne (by omega), i7 1 (by omega) (by omega)]; exact g5.1.2.1
    · show z_set (z_set σ7 b 7 _) b 6 _ 1 1 = _
      rw [s_ne (by omega), s_ne (by omega), i7 1 (by omega) (by omega)]; exact emo
  · have e44 : τ8 0 44 = foN (ovB (σ5 (b + 1)) mo) H 0 := by
      show z_set τ7 1 0 _ 0 44 = _
      rw [s_ne (by omega), i9 0 (by omega) (by omega)]; exact f4
    rw [e44, foN_none (by omega)]
    show cN (ovB (σ5 (b + 1)) mo) H = 0 ↔ _
    rw [cN_zero]
    exact ⟨fun q i _ b => q i (by omega), fun q i b => q i (by omega) (by omega)⟩
theorem G_be_W {H W W' w : Nat} {ob d th he te wa m : Nat → Int32} (h : G_be H W ob d th he te wa m) (hw : ob 6 = nI w) (hW : w ≤ W') : G_be H W' ob d th he te wa m := by
  obtain ⟨b, -, c2, c3, c4, c5⟩ := h
  exact ⟨b, ⟨w, hW, hw⟩, c2, c3, c4, c5⟩
theorem R_now_SG {H : Nat} {σ τ : z_M} (h : R_now H σ τ) : SG H σ τ := by
  obtain ⟨g1, g2, g3, g4, g5, g6, g7, g8, g9, g10⟩ := h
  exact ⟨g1, g3, g4, g5, g7⟩
theorem e_weeksL {n w : Nat} {B : Int32} (hwn : w + n ≤ 999) : ∀ (r i f g : Nat) (acc : Int32) (σ τ : z_M), i + r = n → r < f → r < g → Rel0 σ τ → σ 18 6 = nI (w + i) → τ 1 3 = B + acc → ∃ x σ' τ', f11_weeks_L35 f (nI n) acc (nI i) σ = some (x, σ') ∧ f12_weeks_L41 g (nI n) B (nI i) τ = some (x, τ') ∧ Rel0 σ' τ'
  | 0, i, f, g, acc, σ, τ, h1, h2, h3, hR, hw, hb => by
    obtain ⟨f, rfl⟩ : ∃ m, f = m + 1 := ⟨f - 1, by omega⟩
    obtain ⟨g, rfl⟩ : ∃ m, g = m + 1 := ⟨g - 1, by omega⟩
    refine ⟨acc, σ, τ, ?_, ?_, hR⟩
    · unfold f11_weeks_L35
      rw [if_neg (nI_nlt (by omega) (by omega))]
    · unfold f12_weeks_L41 f12_weeks_J60
      rw [if_neg (nI_nlt (by omega) (by omega)), q_chk _ (by decide), show z_ix 3 = 3 from rfl, hb, Int32.add_comm, q_add_sub]
  | r + 1, i, f, g, acc, σ, τ, h1, h2, h3, hR, hw, hb => by
    obtain ⟨f, rfl⟩ : ∃ m, f = m + 1 := ⟨f - 1, by omega⟩
    obtain ⟨g, rfl⟩ : ∃ m, g = m + 1 := ⟨g - 1, by omega⟩
    have hR0 := hR
    obtain ⟨⟨H, hN, hU⟩, -⟩ := hR
    obtain ⟨sA, sB⟩ := Rel0_SA hR0 hN
    obtain ⟨σ1, τ1, k1, k2, k3, k4, k5, k6⟩ := e_keep hU sB
    have hA1 := SA_keep sA k4 k5 k6
    have hB1 : SB 18 H (w + i) σ1 τ1 := SB_keep (G_be_W sB hw (Nat.le_refl _)) k4 k5
    have hG1 : SG H σ1 τ1 := by
      obtain ⟨g1, g2, g3, g4, g5⟩ := R_now_SG hN
      have q : ∀ c, c ≤ 14 → σ1 c = σ c := fun c hc => k4 c (by omega)
      refine ⟨?_, ?_, ?_, LG_cong g4 (fun c a b => q c (by omega)) (fun c a b => k5 c (by omega) (by omega)), ?_⟩
      · rw [q 1 (by omega), k6 6 (by omega), k6 7 (by omega), k6 8 (by omega), k6 9 (by omega)]; exact g1
      · rw [q 3 (by omega), k5 5 (by omega) (by omega)]; exact g2
      · rw [q 4 (by omega), q 5 (by omega), k6 36 (by omega), k5 17 (by omega) (by omega)]; exact g3
      · rw [q 13 (by omega), q 14 (by omega), k6 40 (by omega), k5 19 (by omega) (by omega)]; exact g5
    obtain ⟨c, σ2, τ2, c8, x1, x2, x3, x4, x5, -, -⟩ := e_pass hA1 hB1 hG1
    have hw2 : σ2 18 6 = nI (w + (i + 1)) := by rw [x5, k4 18 (by omega), hw, nI_1, Nat.add_assoc]
    have x3' : ST 50 18 H 999 σ1 τ1 σ2 τ2 := ⟨x3.1, G_be_W x3.2.1 hw2 (by omega), x3.2.2⟩
    have hR2 := Rel0_step hR0 hN k3 k4 k5 k6 x3'
    obtain ⟨x, σ', τ', y1, y2, y3⟩ := e_weeksL hwn r (i + 1) f g (acc + nI c) σ2 τ2 (by omega) (by omega) (by omega) hR2 hw2 (by rw [x4, k5 1 (by omega) (by omega), hb, Int32.add_assoc])
    refine ⟨x, σ', τ', ?_, ?_, y3⟩
    · unfold f11_weeks_L35
      rw [if_pos (nI_lt (by omega) (by omega)), k1, q_bnd, x1, q_bnd, nI_1]; exact y1
    · unfold f12_weeks_L41
      rw [if_pos (nI_lt (by omega) (by omega)), k2, q_bnd, x2, q_bnd, nI_1]; exact y2
theorem p_weeks0 : p_weeks Rel0 := by
  intro p1 σ τ hR
  replace hR := Rel0_told hR
  unfold f12_weeks f11_weeks
  rw [q_let]
  generalize z_set τ 0 0 0 = τ at hR ⊢
  have hR0 := hR
  obtain ⟨⟨H, hN, hU⟩, hI, hT, hF, hC⟩ := hR
  obtain ⟨g1, g2, g3, g4, g5, g6, g7, g8, g9, g10⟩ := hN
  obtain ⟨w, hw, ew⟩ := g10.2.1
  have ew : σ 18 6 = nI w := ew
  have ewm : τ 1 0 = nI w := by rw [g10.1.1]; exact ew
  rcases g_in p1 1 60 1 60 rfl rfl (by omega) (by omega) τ with ⟨n1 | ⟨n1, n2⟩, e⟩ | ⟨n, hn1, hn, rfl, n1, n2, e⟩
  · rw [if_pos n1, e]; exact ⟨-1, σ, τ, rfl, rfl, hR0⟩
  · rw [if_neg n1, if_pos n2, e]; exact ⟨-1, σ, τ, rfl, rfl, hR0⟩
  rw [if_neg n1, if_neg n2, e, q_bnd, i_10, q_chk _ (by decide), show z_ix 0 = 0 from rfl, ew, ewm, nI_add]
  by_cases h9 : 999 < w + n
  · have c : (999 : Int32) < nI (w + n) := nI_lt (a := 999) h9 (by omega)
    rw [if_pos c, if_pos c]
    exact ⟨-1, σ, τ, rfl, rfl, hR0⟩
  · have c : ¬ (999 : Int32) < nI (w + n) := nI_nlt (a := 999) (by omega) (by omega)
    rw [if_neg c, if_neg c, q_chk _ (by decide), show z_ix 3 = 3 from rfl]
    obtain ⟨x, σ', τ', y1, y2, y3⟩ := e_weeksL (n := n) (w := w) (B := τ 1 3) (by omega) n 0 z_fu z_fu 0 σ τ (by omega) (show n < 1000 by omega) (show n < 1000 by omega) hR0 ew (by rw [Int32.add_zero])
    have y1 : f11_weeks_L35 z_fu (nI n) 0 0 σ = some (x, σ') := y1
    have y2 : f12_weeks_L41 z_fu (nI n) (τ 1 3) 0 τ = some (x, τ') := y2
    exact ⟨x, σ', τ', y1, y2, y3⟩
