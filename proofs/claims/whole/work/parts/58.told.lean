/-! THE LAW's lines, what is asked of a pot; of -/
theorem cl_eq {lo hi y : Int32} (h : ¬ hi < lo) : z_max lo (z_min hi y) = if y < lo then lo else if hi < y then hi else y := by
  unfold z_max z_min
  simp only [Int32.lt_iff_toInt_lt] at h ⊢
  repeat' split
  all_goals first
    | rfl
    | (exfalso; omega)
    | (apply Int32.toInt_inj.mp; omega)
theorem cl_lo {lo hi y : Int32} (h : ¬ hi < lo) : ¬ z_max lo (z_min hi y) < lo := by
  unfold z_max z_min
  simp only [Int32.lt_iff_toInt_lt] at h ⊢
  repeat' split
  all_goals omega
theorem cl_hi {lo hi y : Int32} (h : ¬ hi < lo) : ¬ hi < z_max lo (z_min hi y) := by
  unfold z_max z_min
  simp only [Int32.lt_iff_toInt_lt] at h ⊢
  repeat' split
  all_goals omega
/-- THE LAW of both sides -/
def LG (σ τ : z_M) : Prop := G_la (σ 7 2) (σ 7 3) (τ 9 1) (σ 8) (σ 9) (fun l => τ 10 (16 + l)) (fun l => τ 11 (16 + l)) (fun l => τ 12 (16 + l)) (fun l => τ 13 (16 + l)) (fun i => τ 14 (400 + i)) (fun i => τ 15 (400 + i))
theorem LG_cong {σ τ σ' τ' : z_M} (h : LG σ τ) (e1 : ∀ c, 7 ≤ c → c ≤ 9 → σ' c = σ c) (e2 : ∀ c, 9 ≤ c → c ≤ 15 → τ' c = τ c) : LG σ' τ' := by
  unfold LG at h ⊢
  rw [e1 7 (by omega) (by omega), e1 8 (by omega) (by omega), e1 9 (by omega) (by omega), e2 9 (by omega) (by omega), e2 10 (by omega) (by omega), e2 11 (by omega) (by omega), e2 12 (by omega) (by omega), e2 13 (by omega) (by omega), e2 14 (by omega) (by omega), e2 15 (by omega) (by omega)]
  exact h
def lawK (lo hi oth r1 : Int32) (σ2 : z_M) : Option (Int32 × z_M) :=
  if r1 = (-1) then
    f12_lawTells_J37 lo hi oth σ2
  else
    z_chk (z_in r1 48) <|
    z_chk (z_in r1 48) <|
    z_bnd (f12_runs 1 (σ2 11 (z_ix r1)) (σ2 12 (z_ix r1)) σ2) fun r5 σ6 =>
    f12_lawTells_J37 lo hi r5 σ6
theorem e_toldL {n K : Nat} {w w' lo hi oth : Int32} {σ0 τ0 : z_M} (hL : LC K σ0 τ0) (hn : n ≤ 16) (e1 : σ0 7 2 = nI n) (e2 : τ0 9 1 = nI n) (hlh : ¬ hi < lo) (hw : ∀ i, i < n → (σ0 8 (5 * i) = w ↔ τ0 10 (16 + i) = w')) (hl : ∀ i, i < n → ∃ f t e, σ0 8 (5 * i + 1) = nI f ∧ σ0 8 (5 * i + 2) = nI t ∧ σ0 8 (5 * i + 3) = nI e ∧ τ0 11 (16 + i) = nI f ∧ τ0 12 (16 + i) = nI t ∧ τ0 13 (16 + i) = nI e ∧ e ≤ K ∧ C_ok (σ0 9) f t ∧ (t = e ∨ C_ok (σ0 9) t e)) : ∀ (r k f g : Nat) (σ τ : z_M), k + r = n → r < f → r < g → (∀ c, c ≠ 49 → σ c = σ0 c) → (∀ c, c ≠ 21 → τ c = τ0 c) → ∃ y σ' τ', f5_told_L6 f 7 w lo hi oth (nI k) σ = some (z_max lo (z_min hi y), σ') ∧ z_bnd (f12_lineOf_L2 g w' (nI k) τ) (lawK lo hi oth) = some (z_max lo (z_min hi y), τ') ∧ (∀ c, c ≠ 49 → σ' c = σ0 c) ∧ ∀ c, c ≠ 21 → τ' c = τ0 c
  | 0, k, f, g, σ, τ, h1, h2, h3, a1, a2 => by
    obtain ⟨f, rfl⟩ : ∃ m, f = m + 1 := ⟨f - 1, by omega⟩
    obtain ⟨g, rfl⟩ : ∃ m, g = m + 1 := ⟨g - 1, by omega⟩
    refine ⟨oth, σ, τ, ?_, ?_, a1, a2⟩
    · unfold f5_told_L6 f5_told_J88
      rw [a1 7 (by omega), e1, if_neg (nI_nlt (by omega) (by omega))]
    · unfold f12_lineOf_L2
      rw [q_chk _ (by decide), show z_ix 1 = 1 from rfl, a2 9 (by omega), e2, if_neg (nI_nlt (by omega) (by omega)), q_bnd]
      unfold lawK f12_lawTells_J37
      rw [if_pos rfl, e12_held, q_bnd, cl_eq hlh]
  | r + 1, k, f, g, σ, τ, h1, h2, h3, a1, a2 => by
    obtain ⟨f, rfl⟩ : ∃ m, f = m + 1 := ⟨f - 1, by omega⟩
    obtain ⟨g, rfl⟩ : ∃ m, g = m + 1 := ⟨g - 1, by omega⟩
    have hK := hL.1
    have hL' : LC K σ τ := LC_cong hL a1 a2
    obtain ⟨fr, to, en, f1, f2, f3, m1, m2, m3, he, ho, hoe⟩ := hl k (by omega)
    have hwk := hw k (by omega)
    have b7 : σ 7 2 = nI n := by rw [a1 7 (by omega)]; exact e1
    have b9 : τ 9 1 = nI n := by rw [a2 9 (by omega)]; exact e2
    have t0 : f9_at 7 (nI k) 0 σ = some (σ0 8 (5 * k), σ) := by
      rw [l_0, e9_at (N := 80) rfl (by omega) (by omega)]; rw [show σ (7 + 1) = σ0 8 from a1 8 (by omega)]; rfl
    have t1 : ∀ σ', σ' 8 = σ0 8 → f9_at 7 (nI k) 1 σ' = some (nI fr, σ') := fun σ' q => by
      rw [l_1, e9_at (N := 80) rfl (by omega) (by omega)]; rw [show σ' (7 + 1) = σ0 8 from q, f1]
    have t2 : f9_at 7 (nI k) 2 σ = some (nI to, σ) := by
      rw [l_2, e9_at (N := 80) rfl (by omega) (by omega)]; rw [show σ (7 + 1) = σ0 8 from a1 8 (by omega), f2]
    have t3 : f9_at 7 (nI k) 3 σ = some (nI en, σ) := by
      rw [l_3, e9_at (N := 80) rfl (by omega) (by omega)]; rw [show σ (7 + 1) = σ0 8 from a1 8 (by omega), f3]
    have ix : (16 : Int32) + nI k = nI (16 + k) := by rw [l_16, nI_add]
    have c10 : τ 10 (16 + k) = τ0 10 (16 + k) := by rw [a2 10 (by omega)]
    have c12 : τ 12 (16 + k) = nI to := by rw [a2 12 (by omega)]; exact m2
    have c13 : τ 13 (16 + k) = nI en := by rw [a2 13 (by omega)]; exact m3
    have fin : ∀ σ' τ', (∀ c, c ≠ 49 → σ' c = σ0 c) → (∀ c, c ≠ 21 → τ' c = τ0 c) → ∃ y σ'' τ'', f5_told_J63 7 lo hi (nI k) (nI to) σ' = some (z_max lo (z_min hi y), σ'') ∧ lawK lo hi oth (nI (16 + k)) τ' = some (z_max lo (z_min hi y), τ'') ∧ (∀ c, c ≠ 49 → σ'' c = σ0 c) ∧ ∀ c, c ≠ 21 → τ'' c = τ0 c := by
      intro σ' τ' b1 b2
      have e9 : σ' 9 = σ0 9 := b1 9 (by omega)
      obtain ⟨x, σ'', τ'', x1, x2, x3, x4⟩ := e_worth (LC_cong hL b1 b2) (show to ≤ K by rcases hoe with q | q; omega; have := q.1; omega) (by rw [e9]; exact ho)
      refine ⟨x, σ'', τ'', ?_, ?_, fun c hc => (x3 c hc).trans (b1 c hc), fun c hc => (x4 c hc).trans (b2 c hc)⟩
      · unfold f5_told_J63 f5_told_J88
        rw [t1 σ' (b1 8 (by omega)), q_bnd, x1, q_bnd]
      · unfold lawK f12_lawTells_J37
        rw [if_neg (q_neg (by omega)), k_cin _ (by omega) (by omega), k_cin _ (by omega) (by omega), q_ix (by omega), b2 11 (by omega), b2 12 (by omega), m1, m2, x2, q_bnd, e12_held, q_bnd, cl_eq hlh]
    unfold f5_told_L6 f12_lineOf_L2
    rw [b7, if_pos (nI_lt (by omega) (by omega)), t2, q_bnd, t3, q_bnd, t0, q_bnd, q_chk _ (by decide), show z_ix 1 = 1 from rfl, b9, if_pos (nI_lt (by omega) (by omega)), ix, k_cin _ (by omega) (by omega), k_cin _ (by omega) (by omega), k_cin _ (by omega) (by omega), k_cin _ (by omega) (by omega), k_cin _ (by omega) (by omega), q_ix (by omega), c10, c12, c13, nI_1]
    have ih := fun σ τ => e_toldL hL hn e1 e2 hlh hw hl r (k + 1) f g σ τ (by omega) (by omega) (by omega) (oth := oth)
    by_cases hq : σ0 8 (5 * k) = w
    · rw [if_pos hq, if_pos (hwk.mp hq)]
      by_cases hte : to = en
      · subst hte
        rw [if_pos rfl, if_pos rfl, q_bnd]
        exact fin σ τ a1 a2
      · have hne : ¬ nI to = nI en := by
          have h5 : to ≤ en := by rcases hoe with q | q; omega; exact q.1
          rw [nI_eq (by omega) (by omega)]; exact hte
        obtain ⟨x, σ1, τ1, x1, x2, x3, x4⟩ := e_worth hL' he (show C_ok (σ 9) to en by rw [a1 9 (by omega)]; rcases hoe with q | q; exact absurd q hte; exact q)
        have y1 : ∀ c, c ≠ 49 → σ1 c = σ0 c := fun c hc => (x3 c hc).trans (a1 c hc)
        have y2 : ∀ c, c ≠ 21 → τ1 c = τ0 c := fun c hc => (x4 c hc).trans (a2 c hc)
        rw [if_neg hne, if_neg hne, x1, x2, q_bnd, q_bnd]
        by_cases hx : x = 0
        · rw [if_pos hx, if_pos hx]
          exact ih σ1 τ1 y1 y2
        · rw [if_neg hx, if_neg hx, q_bnd]
          exact fin σ1 τ1 y1 y2
    · rw [if_neg hq, if_neg (fun q => hq (hwk.mpr q))]
      exact ih σ τ a1 a2
theorem e_tells {w w' lo hi oth : Int32} {σ τ : z_M} (hG : LG σ τ) (hs : ∀ k, k < 8 → σ 48 k = τ 20 k) (hlh : ¬ hi < lo) (hw : (w = 8 ∧ w' = 0) ∨ (w = 9 ∧ w' = 1) ∨ (w = 10 ∧ w' = 2)) : ∃ y σ' τ', f5_told 7 w oth lo hi σ = some (z_max lo (z_min hi y), σ') ∧ f12_lawTells w' oth lo hi τ = some (z_max lo (z_min hi y), τ') ∧ (∀ c, c ≠ 49 → σ' c = σ c) ∧ ∀ c, c ≠ 21 → τ' c = τ c := by
  obtain ⟨n, K, hn, hK, e1, e2, e3, hc, hl⟩ := hG
  obtain ⟨y, σ', τ', a1, a2, a3, a4⟩ := e_toldL (w := w) (w' := w') (oth := oth) ⟨hK, e3, hc, hs⟩ hn e1 e2 hlh (fun i hi => by
    obtain ⟨-, q⟩ := hl i hi
    have q : (σ 8 (5 * i) = 8 ∧ τ 10 (16 + i) = 0) ∨ (σ 8 (5 * i) = 9 ∧ τ 10 (16 + i) = 1) ∨ (σ 8 (5 * i) = 10 ∧ τ 10 (16 + i) = 2) := q
    rcases q with ⟨q1, q2⟩ | ⟨q1, q2⟩ | ⟨q1, q2⟩ <;> rcases hw with ⟨rfl, rfl⟩ | ⟨rfl, rfl⟩ | ⟨rfl, rfl⟩ <;> rw [q1, q2] <;> decide) (fun i hi => (hl i hi).1) n 0 z_fu z_fu σ τ (by omega) (show n < 1000 by omega) (show n < 1000 by omega) (fun _ _ => rfl) (fun _ _ => rfl)
  exact ⟨y, σ', τ', a1, a2, a3, a4⟩
theorem e_lower {σ τ : z_M} (hG : LG σ τ) (hs : ∀ k, k < 8 → σ 48 k = τ 20 k) : ∃ v σ' τ', v ≤ 100 ∧ f5_lowers 7 σ = some (nI v, σ') ∧ f12_lowerAsked τ = some (nI v, τ') ∧ (∀ c, c ≠ 49 → σ' c = σ c) ∧ ∀ c, c ≠ 21 → τ' c = τ c := by
  obtain ⟨y, σ', τ', a1, a2, a3, a4⟩ := e_tells (lo := 0) (hi := 100) (oth := σ 48 0 / 10) hG hs (by decide) (.inr (.inl ⟨rfl, rfl⟩))
  obtain ⟨v, hv, ev⟩ := q_natle (n := 100) (cl_lo (lo := 0) (hi := 100) (y := y) (by decide)) (cl_hi (lo := 0) (hi := 100) (y := y) (by decide))
  refine ⟨v, σ', τ', hv, ?_, ?_, a3, a4⟩
  · unfold f5_lowers
    rw [q_chk _ (by decide), show z_ix 0 = 0 from rfl, a1, ev, q_bnd]
  · unfold f12_lowerAsked
    rw [q_chk _ (by decide), show z_ix 0 = 0 from rfl, ← hs 0 (by omega), a2, ev, q_bnd]
theorem e_seed {σ τ : z_M} (hG : LG σ τ) (hs : ∀ k, k < 8 → σ 48 k = τ 20 k) : ∃ v σ' τ', v ≤ 99 ∧ f5_seeds 7 σ = some (nI v, σ') ∧ f12_seedAsked τ = some (nI v, τ') ∧ (∀ c, c ≠ 49 → σ' c = σ c) ∧ ∀ c, c ≠ 21 → τ' c = τ c := by
  obtain ⟨y, σ', τ', a1, a2, a3, a4⟩ := e_tells (lo := 0) (hi := 99) (oth := 10) hG hs (by decide) (.inr (.inr ⟨rfl, rfl⟩))
  obtain ⟨v, hv, ev⟩ := q_natle (n := 99) (cl_lo (lo := 0) (hi := 99) (y := y) (by decide)) (cl_hi (lo := 0) (hi := 99) (y := y) (by decide))
  refine ⟨v, σ', τ', hv, ?_, ?_, a3, a4⟩
  · unfold f5_seeds
    rw [a1, ev, q_bnd]
  · unfold f12_seedAsked
    rw [a2, ev, q_bnd]
theorem e_grow {σ τ : z_M} (hG : LG σ τ) (hs : ∀ k, k < 8 → σ 48 k = τ 20 k) : ∃ x σ' τ', (-99 ≤ x.toInt ∧ x.toInt ≤ 99) ∧ f5_grows 7 σ = some (x, σ') ∧ f12_growAsked τ = some (x, τ') ∧ (∀ c, c ≠ 49 → σ' c = σ c) ∧ ∀ c, c ≠ 21 → τ' c = τ c := by
  obtain ⟨y, σ', τ', a1, a2, a3, a4⟩ := e_tells (lo := -99) (hi := 99) (oth := σ 48 2 - 5) hG hs (by decide) (.inl ⟨rfl, rfl⟩)
  refine ⟨z_max (-99) (z_min 99 y), σ', τ', ⟨?_, ?_⟩, ?_, ?_, a3, a4⟩
  · have := cl_lo (lo := -99) (hi := 99) (y := y) (by decide)
    rw [Int32.lt_iff_toInt_lt, show (-99 : Int32).toInt = -99 from rfl] at this
    omega
  · have := cl_hi (lo := -99) (hi := 99) (y := y) (by decide)
    rw [Int32.lt_iff_toInt_lt, show (99 : Int32).toInt = 99 from rfl] at this
    omega
  · unfold f5_grows
    rw [q_chk _ (by decide), show z_ix 2 = 2 from rfl, a1, q_bnd]
  · unfold f12_growAsked
    rw [q_chk _ (by decide), show z_ix 2 = 2 from rfl, ← hs 2 (by omega), a2, q_bnd]
/-- eight slots told -/
def o8 (v0 v1 v2 v3 v4 v5 v6 v7 : Int32) : Nat → Int32 := fun k => [v0, v1, v2, v3, v4, v5, v6, v7].getD k 0
theorem o8_fl (σ : z_M) (c : Nat) (v0 v1 v2 v3 v4 v5 v6 v7 : Int32) : z_set (z_set (z_set (z_set (z_set (z_set (z_set (z_set σ c 0 v0) c 1 v1) c 2 v2) c 3 v3) c 4 v4) c 5 v5) c 6 v6) c 7 v7 = z_fl σ c 0 8 (o8 v0 v1 v2 v3 v4 v5 v6 v7) := by
  have e := fl_s (σ := σ) (c := c) (a := 0) (k := 0) (j := 0) (g := o8 v0 v1 v2 v3 v4 v5 v6 v7) (v := v0) rfl rfl
  rw [fl_0] at e
  have s : ∀ k v, v = o8 v0 v1 v2 v3 v4 v5 v6 v7 k → z_set (z_fl σ c 0 k (o8 v0 v1 v2 v3 v4 v5 v6 v7)) c k v = z_fl σ c 0 (k + 1) (o8 v0 v1 v2 v3 v4 v5 v6 v7) := fun k v h => fl_s (by omega) h
  rw [e, s 1 v1 rfl, s 2 v2 rfl, s 3 v3 rfl, s 4 v4 rfl, s 5 v5 rfl, s 6 v6 rfl, s 7 v7 rfl]
theorem e11_thing1 {t : Nat} (ht : t < 8) (σ : z_M) : f11_isThing (nI t) σ = some (1, σ) := by
  have h8 : nI t < 8 := nI_lt (b := 8) ht (by omega)
  rw [e11_isThing, if_neg (nI_pos (by omega)), if_pos h8]
theorem e5_obs {b h t l : Nat} {σ : z_M} (hb : b = 18 ∨ b = 52) (hh : h < 8) (ht : t < 8) (hl : l < 256) (e1 : σ (b + 2) h = nI t) (e2 : σ 3 h = nI l) (sv : Int32) : f5_observe 1 b (nI h) sv σ = some ((), z_fl σ 48 0 8 (o8 (σ (b + 3) h) (σ (b + 4) h) (σ (b + 5) h) (σ (b + 1) (8 * h + t)) (nI t) (σ b 6) sv (nI (pc l)))) := by
  have e2' : σ (1 + 2) h = nI l := e2
  unfold f5_observe f5_observe_J68
  rw [k_cin _ hh (by omega), k_cin _ hh (by omega), q_chk _ (by decide), q_let, q_ix (by omega), k_cin _ hh (by omega), q_chk _ (by decide), q_let, k_cin _ hh (by omega), q_chk _ (by decide), q_let, e1, e11_thing1 ht, q_bnd, i_10, e0_degreeOf hh ht, q_bnd, q_chk _ (by decide), q_let, q_chk _ (by decide), q_let, q_chk _ (by decide), q_let, q_chk _ (by decide), q_let, k_cin _ hh (by omega)]
  simp (disch := omega) only [s_ne]
  rw [e2', e_bc hl, q_bnd, q_chk _ (by decide), q_let]
  rw [← o8_fl]; rfl
theorem e12_obs {h t l : Nat} {d : Nat → Int32} {τ : z_M} (hh : h < 8) (ht : t < 8) (hl : l < 256) (e1 : τ 1 (68 + h) = nI t + 1) (e2 : τ 5 h = nI l) (hd : ∀ i, i < 64 → τ 1 (4 + i) = d i - 50) : f12_asks (nI h) τ = some ((), z_fl τ 20 0 8 (o8 (τ 1 (76 + h)) (τ 1 (84 + h)) (τ 1 (92 + h)) (d (8 * h + t)) (nI t) (τ 1 0) (nI (pc (sN d h))) (nI (pc l)))) := by
  have hd1 := hd (8 * h + t) (by omega)
  unfold f12_asks
  rw [l_76, l_84, l_92, nI_add, nI_add, nI_add, q_ix (show 76 + h < 2 ^ 31 by omega), q_ix (show 84 + h < 2 ^ 31 by omega), q_ix (show 92 + h < 2 ^ 31 by omega), k_cin _ (by omega) (by omega), q_chk _ (by decide), q_let, k_cin _ (by omega) (by omega), q_chk _ (by decide), q_let, k_cin _ (by omega) (by omega), q_chk _ (by decide), q_let]
  simp (disch := omega) only [s_ne]
  rw [e12_potOf' hh _ (by simp (disch := omega) only [s_ne]; exact e1), q_bnd, e12_degreeOf hh ht, q_bnd, q_chk _ (by decide), q_let]
  simp (disch := omega) only [s_ne]
  rw [hd1, q_sub_add, e12_potOf' hh _ (by simp (disch := omega) only [s_ne]; exact e1), q_bnd, q_chk _ (by decide), q_let, q_chk _ (by decide), q_chk _ (by decide), q_let]
  simp (disch := omega) only [s_ne]
  rw [e12_suresOf hh _ (fun i hi => by simp (disch := omega) only [s_ne]; exact hd i hi), q_bnd, e12_onesOf (sN_lt _ _), q_bnd, q_chk _ (by decide), q_let, k_cin _ hh (by omega), q_ix (show h < 2 ^ 31 by omega)]
  simp (disch := omega) only [s_ne]
  rw [e2, e12_onesOf hl, q_bnd, q_chk _ (by decide), q_let]
  rw [← o8_fl]; rfl
/-- a pot is looked at, on both sides; sv: the sures that the class tells -/
theorem e_obs {b H W h : Nat} {σ τ : z_M} (hb : b = 18 ∨ b = 52) (hB : SB b H W σ τ) (hh : h < 8) (hp : σ (b + 2) h ≠ -1) (hl : ∀ i, i < 8 → τ 5 i = σ 3 i ∧ ∃ n, n < 256 ∧ σ 3 i = nI n) (sv : Int32) : ∃ f g, f5_observe 1 b (nI h) sv σ = some ((), z_fl σ 48 0 8 f) ∧ f12_asks (nI h) τ = some ((), z_fl τ 20 0 8 g) ∧ (∀ k, k < 8 → k ≠ 6 → f k = g k) ∧ f 6 = sv ∧ g 6 = nI (pc (sN (σ (b + 1)) h)) := by
  obtain ⟨⟨b1, -⟩, -, -, c3, c4, -⟩ := hB
  obtain ⟨l1, l, l2, l3⟩ := hl h hh
  obtain ⟨q1, q2⟩ := c4 h hh
  rcases q2 with q2 | ⟨r1, ⟨t, ht, et⟩, r3, r4, r5, r6, r7, r8⟩
  · exact absurd q2.1 hp
  refine ⟨_, _, e5_obs hb hh ht l2 et l3 sv, e12_obs hh ht l2 (by rw [q1, et]) (l1.trans l3) (fun i hi => (c3 i hi).1), fun k hk hk6 => ?_, rfl, rfl⟩
  rw [r6, r7, r8, b1]
  rcases (show k = 0 ∨ k = 1 ∨ k = 2 ∨ k = 3 ∨ k = 4 ∨ k = 5 ∨ k = 7 by omega) with rfl | rfl | rfl | rfl | rfl | rfl | rfl <;> rfl
theorem p_of0 : p_of Rel0 := by
  intro p1 p2 σ τ hR
  replace hR := Rel0_told hR
  unfold f12_of f11_of
  rw [q_let]
  generalize z_set τ 0 0 0 = τ at hR ⊢
  have hR0 := hR
  obtain ⟨⟨H, hN, hU⟩, hI, hT, hF, hC⟩ := hR
  have hN0 := hN
  obtain ⟨g1, g2, g3, g4, g5, g6, g7, g8, g9, g10⟩ := hN
  have hH := g1.1
  have go : ∀ {x y : Option (Int32 × z_M)} (a b : Int32), x = some (a, σ) → y = some (b, τ) → b = a → ∃ (r : Int32) (σ' τ' : z_M), x = some (r, σ') ∧ y = some (r, τ') ∧ Rel0 σ' τ' := fun a b h1 h2 h3 => ⟨a, σ, τ, h1, h3 ▸ h2, hR0⟩
  rcases g_house hH (σ := σ) (τ := τ) g1.2.1 g1.2.2.1 p1 with ⟨c1, c2⟩ | ⟨h, hh, rfl, c1, c2⟩
  · rw [c1, c2]; exact ⟨-1000, σ, τ, rfl, rfl, hR0⟩
  have hq := g10.2.2.2.2.1 h (by omega)
  rw [c1, c2, q_bnd, q_bnd, i_10, i_10, e12_potOf' (by omega) τ hq.1, q_bnd]
  have hcell : ∀ k, k < 8 → (if σ 20 h = -1 then f12_of_J31 (nI h) p2 0 τ else f12_of_J31 (nI h) p2 1 τ) = f12_of_J31 (nI h) p2 (if σ 20 h = -1 then 0 else 1) τ := fun k _ => by split <;> rfl
  have hcell : (if σ (1 + 19) h = -1 then f12_of_J31 (nI h) p2 0 τ else f12_of_J31 (nI h) p2 1 τ) = f12_of_J31 (nI h) p2 (if σ 20 h = -1 then 0 else 1) τ := hcell 0 (by omega)
  rw [hcell, k_cin _ (by omega) (by omega), k_cin _ (by omega) (by omega), k_cin _ (by omega) (by omega), k_cin _ (by omega) (by omega), k_cin _ (by omega) (by omega), q_ix (by omega)]
  unfold f12_of_J31
  by_cases h0 : p2 = 0
  · rw [if_pos h0, if_pos h0, e12_potOf' (by omega) τ hq.1, q_bnd]
    exact go _ _ rfl rfl rfl
  rw [if_neg h0, if_neg h0, l_76, l_84, l_92, nI_add, nI_add, nI_add, k_cin _ (by omega) (by omega), k_cin _ (by omega) (by omega), k_cin _ (by omega) (by omega), q_ix (by omega), q_ix (by omega), q_ix (by omega)]
  have e0 : ∀ {α : Type} (a b : α), (if (if σ 20 h = -1 then (0 : Int32) else 1) = 0 then a else b) = if σ 20 h = -1 then a else b := fun a b => by
    by_cases q : σ 20 h = -1
    · rw [if_pos q, if_pos q, if_pos rfl]
    · rw [if_neg q, if_neg q, i_10]
  rw [e0, e0, e0]
  by_cases h1 : p2 = 1
  · rw [if_pos h1, if_pos h1]
    rcases hq.2 with q | ⟨r1, ⟨t, ht, et⟩, r3, r4, r5, r6, r7, r8⟩
    · rw [if_pos q.1]; exact go _ _ rfl rfl q.2.1.symm
    · rw [if_neg (by rw [show σ 20 h = nI t from et]; exact q_neg (by omega))]; exact go _ _ rfl rfl r6
  rw [if_neg h1, if_neg h1]
  by_cases h2 : p2 = 2
  · rw [if_pos h2, if_pos h2]
    rcases hq.2 with q | ⟨r1, ⟨t, ht, et⟩, r3, r4, r5, r6, r7, r8⟩
    · rw [if_pos q.1]; exact go _ _ rfl rfl q.2.2.1.symm
    · rw [if_neg (by rw [show σ 20 h = nI t from et]; exact q_neg (by omega))]; exact go _ _ rfl rfl r7
  rw [if_neg h2, if_neg h2]
  by_cases h3 : p2 = 3
  · rw [if_pos h3, if_pos h3]
    rcases hq.2 with q | ⟨r1, ⟨t, ht, et⟩, r3, r4, r5, r6, r7, r8⟩
    · rw [if_pos q.1]; exact go _ _ rfl rfl q.2.2.2.symm
    · rw [if_neg (by rw [show σ 20 h = nI t from et]; exact q_neg (by omega))]; exact go _ _ rfl rfl r8
  rw [if_neg h3, if_neg h3]
  have hsu := e12_suresOf (h := h) (by omega) τ (fun i hi => (g10.2.2.2.1 i hi).1)
  by_cases h4 : p2 = 4
  · rw [if_pos h4, if_pos h4, e0_sureOf (by omega), hsu, q_bnd, q_bnd]
    exact go _ _ rfl rfl rfl
  rw [if_neg h4, if_neg h4]
  by_cases h5 : p2 = 5
  · rw [if_pos h5, if_pos h5, k_cin _ (by omega) (by omega), q_ix (by omega)]
    exact go _ _ rfl rfl (g3 h (by omega)).1
  rw [if_neg h5, if_neg h5]
  by_cases h678 : p2 = 6 ∨ p2 = 7 ∨ p2 = 8
  · have hin : f12_isIn p2 6 8 τ = some (1, τ) := by
      rw [e12_isIn]
      rcases h678 with rfl | rfl | rfl <;> rfl
    have hl : ∀ {α : Type} (a b : α), (if p2 = 6 then a else if p2 = 7 then a else if p2 = 8 then a else b) = a := fun a b => by
      rcases h678 with rfl | rfl | rfl <;> rfl
    rw [hin, q_bnd, i_10, hl]
    have key : ∃ (r : Int32) (σ' τ' : z_M), f11_lawOf (nI h) p2 σ = some (r, σ') ∧ f12_ofPot (nI h) p2 τ = some (r, τ') ∧ Rel0 σ' τ' := by
      unfold f11_lawOf f12_ofPot
      rw [e0_hasPot (by omega), q_bnd, e12_potOf' (by omega) τ hq.1, q_bnd]
      by_cases hp : σ 20 h = -1
      · have hp1 : σ (18 + 2) h = -1 := hp
        have hp2 : σ (1 + 19) h = -1 := hp
        rw [if_pos hp1, if_pos hp2]
        exact ⟨-100, σ, τ, rfl, rfl, hR0⟩
      · have hp1 : ¬ σ (18 + 2) h = -1 := hp
        have hp2 : ¬ σ (1 + 19) h = -1 := hp
        rw [if_neg hp1, if_neg hp2, i_10, e0_sures (by omega), q_bnd]
        obtain ⟨f, g, o1, o2, o3, o4, o5⟩ := e_obs (b := 18) (.inl rfl) g10 (h := h) (by omega) hp (G_li_256 hH g3) (nI (pc (sN (σ (18 + 1)) h)))
        rw [o1, o2, q_bnd, q_bnd]
        have fg : ∀ k, k < 8 → z_fl σ 48 0 8 f 48 k = z_fl τ 20 0 8 g 20 k := fun k hk => by
          rw [fl_in (by omega) (by omega), fl_in (by omega) (by omega), Nat.sub_zero]
          by_cases k6 : k = 6
          · rw [k6, o4, o5]
          · exact o3 k hk k6
        have lg : LG (z_fl σ 48 0 8 f) (z_fl τ 20 0 8 g) := LG_cong g5 (fun c a b => fl_ne (by omega)) (fun c a b => fl_ne (by omega))
        have fin : ∀ (x : Int32) (σ' τ' : z_M), (∀ c, c ≠ 49 → σ' c = z_fl σ 48 0 8 f c) → (∀ c, c ≠ 21 → τ' c = z_fl τ 20 0 8 g c) → Rel0 σ' τ' := fun x σ' τ' a1 a2 => by
          refine Rel0_frame2 hR0 (fun c hc => ?_) ?_ ?_ (fun c hc => ?_) (fun k hk => ?_)
          · rw [a1 c (by omega), fl_ne (by omega)]
          · rw [a1 50 (by omega), fl_ne (by omega)]
          · rw [a1 51 (by omega), fl_ne (by omega)]
          · unfold K_m at hc
            rw [a2 c (by omega), fl_ne (by omega)]
          · rw [a2 0 (by omega), fl_ne (by omega)]
        rcases h678 with rfl | rfl | rfl
        · obtain ⟨x, σ', τ', -, x1, x2, x3, x4⟩ := e_grow lg fg
          rw [if_pos rfl, if_pos rfl, x1, x2, q_bnd, q_bnd]
          exact ⟨x, σ', τ', rfl, rfl, fin x σ' τ' x3 x4⟩
        · obtain ⟨x, σ', τ', -, x1, x2, x3, x4⟩ := e_lower lg fg
          rw [if_neg (by decide), if_pos rfl, if_neg (by decide), if_pos rfl, x1, x2, q_bnd, q_bnd]
          exact ⟨nI x, σ', τ', rfl, rfl, fin 0 σ' τ' x3 x4⟩
        · obtain ⟨x, σ', τ', -, x1, x2, x3, x4⟩ := e_seed lg fg
          rw [if_neg (by decide), if_neg (by decide), if_neg (by decide), if_neg (by decide), x1, x2, q_bnd, q_bnd]
          exact ⟨nI x, σ', τ', rfl, rfl, fin 0 σ' τ' x3 x4⟩
    obtain ⟨r, σ', τ', k1, k2, k3⟩ := key
    rw [k1, k2, q_bnd, q_bnd]
    exact ⟨r, σ', τ', rfl, rfl, k3⟩
  · have h6 : ¬ p2 = 6 := fun q => h678 (.inl q)
    have h7 : ¬ p2 = 7 := fun q => h678 (.inr (.inl q))
    have h8 : ¬ p2 = 8 := fun q => h678 (.inr (.inr q))
    rw [if_neg h6, if_neg h7, if_neg h8]
    have hin : f12_isIn p2 6 8 τ = some (0, τ) := by
      rcases g_in p2 6 8 6 8 rfl rfl (by omega) (by omega) τ with ⟨-, e⟩ | ⟨v, v1, v2, rfl, -⟩
      · exact e
      · rcases (show v = 6 ∨ v = 7 ∨ v = 8 by omega) with rfl | rfl | rfl
        · exact absurd rfl h6
        · exact absurd rfl h7
        · exact absurd rfl h8
    rw [hin, q_bnd, i_00]
    rcases q_shift p2 10 8 (by omega) (by omega) with ⟨j, hj, e1, e2⟩ | ⟨n1, n2⟩
    · have e2 : p2 - 10 = nI j := e2
      have hin2 : f12_isIn p2 10 17 τ = some (1, τ) := by
        have w1 : ¬ nI (10 + j) < 10 := nI_nlt (b := 10) (by omega) (by omega)
        have w2 : ¬ 17 < nI (10 + j) := nI_nlt (a := 17) (by omega) (by omega)
        rw [e12_isIn, e1, if_neg w1, if_neg w2]
      rw [e2, e11_thing1 hj, hin2, q_bnd, q_bnd, i_10, i_10, e0_degreeOf (by omega) hj, q_bnd, e12_degreeOf (by omega) hj, q_bnd]
      refine go _ _ rfl rfl ?_
      rw [(g10.2.2.2.1 (8 * h + j) (by omega)).1, q_sub_add]
    · have e1 : f11_isThing (p2 - 10) σ = some (0, σ) := by
        rw [e11_isThing]
        rcases n1 with n1 | n1
        · have n1 : p2 - 10 < 0 := n1
          rw [if_pos n1]
        · have n1 : ¬ p2 - 10 < 8 := n1
          simp only [n1, if_false, ite_self]
      have e2 : f12_isIn p2 10 17 τ = some (0, τ) := by
        rw [e12_isIn]
        rcases n2 with n2 | n2
        · have n2 : p2 < 10 := n2
          rw [if_pos n2]
        · have n2 : 17 < p2 := n2
          simp only [n2, if_true, ite_self]
      rw [e1, e2]
      exact go _ _ rfl rfl rfl
