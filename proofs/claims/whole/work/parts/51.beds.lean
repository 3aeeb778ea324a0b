/-! beds that change, on both sides: notes, pots, waters, degrees; pot, water, weed, tell -/
theorem s_up {σ : z_M} {c k : Nat} {v : Int32} : z_set σ c k v c = upd (σ c) k v := if_pos rfl
theorem G_be_deg {H W h t v : Nat} {ob d th he te wa m : Nat → Int32} (hG : G_be H W ob d th he te wa m) (hH : H ≤ 8) (hh : h < H) (ht : t < 8) (hv : v ≤ 100) : G_be H W ob (upd d (8 * h + t) (nI v)) th he te wa (upd m (4 + (8 * h + t)) (nI v - 50)) := by
  obtain ⟨⟨b1, b2, b3, b4⟩, c1, c2, c3, c4, c5⟩ := hG
  refine ⟨⟨?_, ?_, ?_, ?_⟩, c1, c2, fun i hi => ?_, fun k hk => ?_, fun k u h1 h2 h3 => ?_⟩
  · rw [pk_un (by omega)]; exact b1
  · rw [pk_un (by omega)]; exact b2
  · rw [pk_un (by omega)]; exact b3
  · rw [pk_un (by omega)]; exact b4
  · by_cases e : i = 8 * h + t
    · subst e; rw [pk_us, pk_us]; exact ⟨rfl, v, hv, rfl⟩
    · rw [pk_un e, pk_un (by omega)]; exact c3 i hi
  · rw [pk_un (by omega), pk_un (by omega), pk_un (by omega), pk_un (by omega)]; exact c4 k hk
  · rw [pk_un (by omega)]; exact c5 k u h1 h2 h3
theorem G_be_put {H W h t x y : Nat} {ob d th he te wa m : Nat → Int32} (hG : G_be H W ob d th he te wa m) (hH : H ≤ 8) (hh : h < H) (ht : t < 8) (hx : 1 ≤ x) (hx2 : x ≤ 99) (hy : y ≤ 9) : G_be H W ob d (upd th h (nI t)) (upd he h (nI x)) (upd te h (nI y)) (upd wa h 0) (upd (upd (upd (upd m (68 + h) (nI t + 1)) (76 + h) (nI x)) (84 + h) (nI y)) (92 + h) 0) := by
  obtain ⟨⟨b1, b2, b3, b4⟩, c1, c2, c3, c4, c5⟩ := hG
  refine ⟨⟨?_, ?_, ?_, ?_⟩, c1, c2, fun i hi => ?_, fun k hk => ?_, c5⟩
  · simp (disch := omega) only [pk_un]; exact b1
  · simp (disch := omega) only [pk_un]; exact b2
  · simp (disch := omega) only [pk_un]; exact b3
  · simp (disch := omega) only [pk_un]; exact b4
  · simp (disch := omega) only [pk_un]; exact c3 i hi
  · by_cases e : k = h
    · subst e
      simp (disch := omega) only [pk_un, pk_us]
      exact ⟨by trivial, .inr ⟨hh, ⟨t, ht, rfl⟩, ⟨x, hx, hx2, rfl⟩, ⟨y, hy, rfl⟩, ⟨0, by omega, rfl⟩, by trivial, by trivial, by trivial⟩⟩
    · simp (disch := omega) only [pk_un]; exact c4 k hk
theorem G_be_clr {H W h : Nat} {ob d th he te wa m : Nat → Int32} (hG : G_be H W ob d th he te wa m) (hh : h < 8) : G_be H W ob d (upd th h (-1)) (upd he h 0) (upd te h (-1)) (upd wa h 0) (upd m (68 + h) 0) := by
  obtain ⟨⟨b1, b2, b3, b4⟩, c1, c2, c3, c4, c5⟩ := hG
  refine ⟨⟨?_, ?_, ?_, ?_⟩, c1, c2, fun i hi => ?_, fun k hk => ?_, c5⟩
  · simp (disch := omega) only [pk_un]; exact b1
  · simp (disch := omega) only [pk_un]; exact b2
  · simp (disch := omega) only [pk_un]; exact b3
  · simp (disch := omega) only [pk_un]; exact b4
  · simp (disch := omega) only [pk_un]; exact c3 i hi
  · by_cases e : k = h
    · subst e
      simp (disch := omega) only [pk_un, pk_us]
      exact ⟨by trivial, .inl ⟨by trivial, by trivial, by trivial, by trivial⟩⟩
    · simp (disch := omega) only [pk_un]; exact c4 k hk
/-- a pot's height and water -/
theorem G_be_hw {H W h x w : Nat} {ob d th he te wa m : Nat → Int32} (hG : G_be H W ob d th he te wa m) (hh : h < 8) (hp : th h ≠ -1) (hx : 1 ≤ x) (hx2 : x ≤ 99) (hw : w ≤ 99) : G_be H W ob d th (upd he h (nI x)) te (upd wa h (nI w)) (upd (upd m (76 + h) (nI x)) (92 + h) (nI w)) := by
  obtain ⟨⟨b1, b2, b3, b4⟩, c1, c2, c3, c4, c5⟩ := hG
  refine ⟨⟨?_, ?_, ?_, ?_⟩, c1, c2, fun i hi => ?_, fun k hk => ?_, c5⟩
  · simp (disch := omega) only [pk_un]; exact b1
  · simp (disch := omega) only [pk_un]; exact b2
  · simp (disch := omega) only [pk_un]; exact b3
  · simp (disch := omega) only [pk_un]; exact b4
  · simp (disch := omega) only [pk_un]; exact c3 i hi
  · by_cases e : k = h
    · subst e
      simp (disch := omega) only [pk_un, pk_us]
      obtain ⟨q1, q2⟩ := c4 k hk
      rcases q2 with q2 | ⟨r1, r2, r3, r4, r5, r6, r7, r8⟩
      · exact absurd q2.1 hp
      · exact ⟨q1, .inr ⟨r1, r2, ⟨x, hx, hx2, rfl⟩, r4, ⟨w, hw, rfl⟩, by trivial, r7, by trivial⟩⟩
    · simp (disch := omega) only [pk_un]; exact c4 k hk
theorem G_be_leaf {H W n : Nat} {ob d th he te wa m ob' m' : Nat → Int32} (hG : G_be H W ob d th he te wa m) (e1 : ∀ k, k ≠ 8 → ob' k = ob k) (e2 : ∀ k, k ≠ 2 → m' k = m k) (hn : n ≤ 150) (ea : ob' 8 = nI n) (eb : m' 2 = nI n) : G_be H W ob' d th he te wa m' := by
  obtain ⟨⟨b1, b2, b3, b4⟩, c1, c2, c3, c4, c5⟩ := hG
  refine ⟨⟨?_, ?_, ?_, ?_⟩, ?_, ⟨n, hn, ea⟩, fun i hi => ?_, fun k hk => ?_, c5⟩
  · rw [e1 6 (by omega), e2 0 (by omega)]; exact b1
  · rw [e1 5 (by omega), e2 1 (by omega)]; exact b2
  · rw [ea, eb]
  · rw [e1 7 (by omega), e2 3 (by omega)]; exact b4
  · rw [e1 6 (by omega)]; exact c1
  · rw [e2 _ (by omega)]; exact c3 i hi
  · rw [e2 _ (by omega), e2 _ (by omega), e2 _ (by omega), e2 _ (by omega)]; exact c4 k hk
theorem G_be_brea {H W : Nat} {ob d th he te wa m : Nat → Int32} (hG : G_be H W ob d th he te wa m) (v : Int32) : G_be H W (upd ob 7 v) d th he te wa (upd m 3 v) := by
  obtain ⟨⟨b1, b2, b3, b4⟩, c1, c2, c3, c4, c5⟩ := hG
  refine ⟨⟨b1, b2, b3, rfl⟩, c1, c2, fun i hi => ?_, fun h hh => ?_, c5⟩
  · rw [pk_un (by omega)]; exact c3 i hi
  · rw [pk_un (by omega), pk_un (by omega), pk_un (by omega), pk_un (by omega)]; exact c4 h hh
theorem G_be_week {H W w : Nat} {ob d th he te wa m : Nat → Int32} (hG : G_be H W ob d th he te wa m) {W' : Nat} (hw : w ≤ W') : G_be H W' (upd ob 6 (nI w)) d th he te wa (upd m 0 (nI w)) := by
  obtain ⟨⟨b1, b2, b3, b4⟩, c1, c2, c3, c4, c5⟩ := hG
  refine ⟨⟨rfl, b2, b3, b4⟩, ⟨w, hw, rfl⟩, c2, fun i hi => ?_, fun h hh => ?_, c5⟩
  · rw [pk_un (by omega)]; exact c3 i hi
  · rw [pk_un (by omega), pk_un (by omega), pk_un (by omega), pk_un (by omega)]; exact c4 h hh
/-- awake over the garden's beds, or in thought over others -/
def SA (s b : Nat) (σ τ : z_M) : Prop := (s = 50 ∧ b = 18 ∧ σ 50 3 = 1 ∧ τ 0 5 = 0 ∧ G_bo (σ 17) (τ 6)) ∨ (s = 51 ∧ b = 52 ∧ σ 51 3 = 0 ∧ τ 0 5 = 1)
def SB (b H W : Nat) (σ τ : z_M) : Prop := G_be H W (σ b) (σ (b + 1)) (σ (b + 2)) (σ (b + 3)) (σ (b + 4)) (σ (b + 5)) (τ 1)
/-- what a season leaves alone -/
def FR (s b : Nat) (σ τ σ' τ' : z_M) : Prop := (∀ c, c < b ∨ b + 5 < c → c ≠ 17 → c ≠ 48 → c ≠ 49 → σ' c = σ c) ∧ (s = 51 → σ' 17 = σ 17 ∧ τ' 6 = τ 6) ∧ (∀ c, c ≠ 0 → c ≠ 1 → c ≠ 6 → c ≠ 20 → c ≠ 21 → τ' c = τ c) ∧ ∀ k, k ≠ 44 → τ' 0 k = τ 0 k
theorem FR_refl (s b : Nat) (σ τ : z_M) : FR s b σ τ σ τ := ⟨fun _ _ _ _ _ => rfl, fun _ => ⟨rfl, rfl⟩, fun _ _ _ _ _ _ => rfl, fun _ _ => rfl⟩
theorem FR_trans {s b : Nat} {σ τ σ' τ' σ'' τ'' : z_M} (h : FR s b σ τ σ' τ') (g : FR s b σ' τ' σ'' τ'') : FR s b σ τ σ'' τ'' := ⟨fun c a1 a2 a3 a4 => (g.1 c a1 a2 a3 a4).trans (h.1 c a1 a2 a3 a4), fun q => ⟨(g.2.1 q).1.trans (h.2.1 q).1, (g.2.1 q).2.trans (h.2.1 q).2⟩, fun c a1 a2 a3 a4 a5 => (g.2.2.1 c a1 a2 a3 a4 a5).trans (h.2.2.1 c a1 a2 a3 a4 a5), fun k a => (g.2.2.2 k a).trans (h.2.2.2 k a)⟩
theorem SA_sb {s b : Nat} {σ τ : z_M} (h : SA s b σ τ) : z_sb s = b ∧ (b = 18 ∨ b = 52) ∧ (s = 50 ∨ s = 51) := by
  rcases h with ⟨rfl, rfl, -⟩ | ⟨rfl, rfl, -⟩
  · exact ⟨rfl, .inl rfl, .inl rfl⟩
  · exact ⟨rfl, .inr rfl, .inr rfl⟩
/-- SA looks at no beds -/
theorem SA_cong {s b : Nat} {σ τ σ' τ' : z_M} (h : SA s b σ τ) (h1 : σ' 50 = σ 50) (h2 : σ' 51 = σ 51) (h3 : σ' 17 = σ 17) (h4 : τ' 0 5 = τ 0 5) (h5 : τ' 6 = τ 6) : SA s b σ' τ' := by
  rcases h with ⟨a1, a2, a3, a4, a5⟩ | ⟨a1, a2, a3, a4⟩
  · exact .inl ⟨a1, a2, by rw [h1]; exact a3, by rw [h4]; exact a4, by rw [h3, h5]; exact a5⟩
  · exact .inr ⟨a1, a2, by rw [h2]; exact a3, by rw [h4]; exact a4⟩
/-- a line of THE BOOK -/
theorem e_note {s b n : Nat} {σ τ : z_M} (hA : SA s b σ τ) (hn : n ≤ 150) (h8 : σ b 8 = nI n) (h2 : τ 1 2 = nI n) (h6 : τ 1 0 = σ b 6) (x y z : Int32) : ∃ σ' τ' n', f7_write s x y z σ = some ((), σ') ∧ f12_notes x y z τ = some ((), τ') ∧ SA s b σ' τ' ∧ n' ≤ 150 ∧ σ' b 8 = nI n' ∧ τ' 1 2 = nI n' ∧ (∀ c, c ≠ b → c ≠ 17 → σ' c = σ c) ∧ (∀ k, k ≠ 8 → σ' b k = σ b k) ∧ (∀ c, c ≠ 1 → c ≠ 6 → τ' c = τ c) ∧ (∀ k, k ≠ 2 → τ' 1 k = τ 1 k) ∧ (s = 51 → σ' 17 = σ 17 ∧ τ' 6 = τ 6) := by
  rcases hA with ⟨rfl, rfl, a3, a4, a5⟩ | ⟨rfl, rfl, a3, a4⟩
  · by_cases h150 : n = 150
    · refine ⟨σ, τ, n, ?_, ?_, .inl ⟨rfl, rfl, a3, a4, a5⟩, hn, h8, h2, fun _ _ _ => rfl, fun _ _ => rfl, fun _ _ _ => rfl, fun _ _ => rfl, fun _ => ⟨rfl, rfl⟩⟩
      · unfold f7_write
        rw [a3, if_neg (by decide), show z_sb 50 = 18 from rfl, h8, l_150, if_neg (nI_nlt (by omega) (by omega))]
      · unfold f12_notes
        rw [a4, if_pos rfl, q_chk _ (by decide)]
        show (if τ 1 2 = 150 then _ else _) = _
        rw [h2, h150, if_pos (show nI 150 = 150 from rfl)]
    · refine ⟨z_set (z_set (z_set (z_set (z_set σ 17 (4 * n) (σ 18 6)) 17 (4 * n + 1) x) 17 (4 * n + 2) y) 17 (4 * n + 3) z) 18 8 (nI (n + 1)), z_set (z_set (z_set (z_set (z_set τ 6 (4 * n) (τ 1 0)) 6 (4 * n + 1) x) 6 (4 * n + 2) y) 6 (4 * n + 3) z) 1 2 (nI (n + 1)), n + 1, ?_, ?_, .inl ⟨rfl, rfl, ?_, ?_, ?_⟩, by omega, s_eq, s_eq, fun c a b => ?_, fun k a => ?_, fun c a b => ?_, fun k a => ?_, fun q => absurd q (by omega)⟩
      · unfold f7_write
        have e0 : nI n * 4 = nI (4 * n) := by rw [l_4, pk_mul, Nat.mul_comm]
        rw [a3, if_neg (by decide), show z_sb 50 = 18 from rfl, h8, l_150, if_pos (nI_lt (by omega) (by omega)), e0, l_1, l_2, l_3, nI_add, nI_add, nI_add]
        simp (disch := omega) only [k_cin, q_ix, q_let, s_ne, h8, nI_add]
      · unfold f12_notes
        have e0 : 4 * nI n = nI (4 * n) := by rw [l_4, pk_mul]
        rw [a4, if_pos rfl, q_chk _ (by decide), show z_ix 2 = 2 from rfl, show z_ix 0 = 0 from rfl, h2, l_150, if_neg (by rw [nI_eq (by omega) (by omega)]; exact h150), q_chk _ (by decide), q_chk _ (by decide), e0, l_1, nI_add]
        have e2 : nI (4 * n) + 2 = nI (4 * n + 2) := by rw [l_2, nI_add]
        have e3 : nI (4 * n) + 3 = nI (4 * n + 3) := by rw [l_3, nI_add]
        rw [e2, e3]
        simp (disch := omega) only [k_cin, q_ix, q_let, s_ne]
        rw [q_chk _ (by decide), q_chk _ (by decide), h2, nI_add]
      · simp (disch := omega) only [s_ne]; exact a3
      · simp (disch := omega) only [s_ne]; exact a4
      · intro k hk
        rw [s_ne (show 17 ≠ 18 by omega), s_ne (show 6 ≠ 1 by omega), s_up, s_up, s_up, s_up, s_up, s_up, s_up, s_up, h6]
        simp only [q_upd]
        rw [a5 k hk]
      · rw [s_ne a, s_ne b, s_ne b, s_ne b, s_ne b]
      · rw [s_kn a, s_ne (by omega), s_ne (by omega), s_ne (by omega), s_ne (by omega)]
      · rw [s_ne a, s_ne b, s_ne b, s_ne b, s_ne b]
      · rw [s_kn a, s_ne (by omega), s_ne (by omega), s_ne (by omega), s_ne (by omega)]
  · refine ⟨σ, τ, n, ?_, ?_, .inr ⟨rfl, rfl, a3, a4⟩, hn, h8, h2, fun _ _ _ => rfl, fun _ _ => rfl, fun _ _ _ => rfl, fun _ _ => rfl, fun _ => ⟨rfl, rfl⟩⟩
    · unfold f7_write
      rw [a3, if_pos rfl]
    · unfold f12_notes
      rw [a4, if_neg (by decide)]
/-- what a step of a season gives -/
def ST (s b H W : Nat) (σ τ σ' τ' : z_M) : Prop := SA s b σ' τ' ∧ SB b H W σ' τ' ∧ FR s b σ τ σ' τ'
theorem e0_putPot {b h : Nat} (hh : h < 8) (t x y : Int32) (σ : z_M) : f0_putPot b (nI h) t x y σ = some ((), z_set (z_set (z_set (z_set σ (b + 2) h t) (b + 3) h x) (b + 4) h y) (b + 5) h 0) := by
  unfold f0_putPot
  simp (disch := omega) only [k_cin, q_ix, q_let]
/-- a pot is cleared, whatever stood in it -/
theorem G_be_clr2 {H W h : Nat} {ob d th he te wa m th' he' te' wa' m' : Nat → Int32} (hG : G_be H W ob d th he te wa m) (hh : h < 8) (a1 : th' h = -1) (a2 : he' h = 0) (a3 : te' h = -1) (a4 : wa' h = 0) (a5 : m' (68 + h) = 0) (e1 : ∀ k, k ≠ h → th' k = th k ∧ he' k = he k ∧ te' k = te k ∧ wa' k = wa k) (e2 : ∀ k, k ≠ 68 + h → k ≠ 76 + h → k ≠ 92 + h → m' k = m k) : G_be H W ob d th' he' te' wa' m' := by
  obtain ⟨⟨b1, b2, b3, b4⟩, c1, c2, c3, c4, c5⟩ := hG
  refine ⟨⟨?_, ?_, ?_, ?_⟩, c1, c2, fun i hi => ?_, fun k hk => ?_, c5⟩
  · rw [e2 0 (by omega) (by omega) (by omega)]; exact b1
  · rw [e2 1 (by omega) (by omega) (by omega)]; exact b2
  · rw [e2 2 (by omega) (by omega) (by omega)]; exact b3
  · rw [e2 3 (by omega) (by omega) (by omega)]; exact b4
  · rw [e2 (4 + i) (by omega) (by omega) (by omega)]; exact c3 i hi
  · by_cases e : k = h
    · subst e
      exact ⟨by rw [a5, a1]; rfl, .inl ⟨a1, a2, a3, a4⟩⟩
    · obtain ⟨q1, q2, q3, q4⟩ := e1 k e
      rw [q1, q2, q3, q4, e2 (68 + k) (by omega) (by omega) (by omega), e2 (76 + k) (by omega) (by omega) (by omega), e2 (84 + k) (by omega) (by omega) (by omega), e2 (92 + k) (by omega) (by omega) (by omega)]; exact c4 k hk
theorem e_loseX {s b n h : Nat} {σ τ : z_M} (hA : SA s b σ τ) (hn : n ≤ 150) (h8 : σ b 8 = nI n) (h2 : τ 1 2 = nI n) (h6 : τ 1 0 = σ b 6) (hh : h < 8) (hp : τ 1 (68 + h) = σ (b + 2) h + 1) (w : Int32) : ∃ σ' τ' n', f7_lose s (nI h) w σ = some ((), σ') ∧ f12_loses (nI h) w τ = some ((), τ') ∧ SA s b σ' τ' ∧ n' ≤ 150 ∧ σ' b 8 = nI n' ∧ τ' 1 2 = nI n' ∧ (∀ c, c ≠ b → c ≠ 17 → c < b + 2 ∨ b + 5 < c → σ' c = σ c) ∧ (∀ k, k ≠ 8 → σ' b k = σ b k) ∧ σ' (b + 2) = upd (σ (b + 2)) h (-1) ∧ σ' (b + 3) = upd (σ (b + 3)) h 0 ∧ σ' (b + 4) = upd (σ (b + 4)) h (-1) ∧ σ' (b + 5) = upd (σ (b + 5)) h 0 ∧ (∀ c, c ≠ 1 → c ≠ 6 → τ' c = τ c) ∧ (∀ k, k ≠ 2 → k ≠ 68 + h → τ' 1 k = τ 1 k) ∧ τ' 1 (68 + h) = 0 ∧ (s = 51 → σ' 17 = σ 17 ∧ τ' 6 = τ 6) := by
  obtain ⟨sb, hb, -⟩ := SA_sb hA
  obtain ⟨σ1, τ1, n1, e1, e2, e3, e4, e5, e6, e7, e8, e9, e10, e11⟩ := e_note hA hn h8 h2 h6 w (nI h) (σ (b + 2) h)
  refine ⟨z_set (z_set (z_set (z_set σ1 (b + 2) h (-1)) (b + 3) h 0) (b + 4) h (-1)) (b + 5) h 0, z_set τ1 1 (68 + h) 0, n1, ?_, ?_, SA_cong e3 ?_ ?_ ?_ ?_ ?_, e4, ?_, ?_, fun c a1 a2 a3 => ?_, fun k a => ?_, ?_, ?_, ?_, ?_, fun c a1 a2 => ?_, fun k a1 a2 => ?_, s_eq, fun q => ⟨?_, ?_⟩⟩
  · unfold f7_lose f0_clearPot
    rw [k_cin _ hh (by omega), q_ix (by omega), sb, e1, q_bnd, e0_putPot hh, q_bnd, q_bnd]
  · unfold f12_loses
    rw [e12_potOf' hh τ hp, q_bnd, e2, q_bnd, l_68, nI_add, k_cin _ (by omega) (by omega), q_ix (by omega), q_let]
  · simp (disch := omega) only [s_ne]
  · simp (disch := omega) only [s_ne]
  · simp (disch := omega) only [s_ne]
  · simp (disch := omega) only [s_ne]
  · simp (disch := omega) only [s_ne]
  · simp (disch := omega) only [s_ne]; exact e5
  · rw [s_kn (by omega)]; exact e6
  · simp (disch := omega) only [s_ne]; exact e7 c a1 a2
  · simp (disch := omega) only [s_ne]; exact e8 k a
  · simp (disch := omega) only [s_ne, s_up]; rw [e7 (b + 2) (by omega) (by omega)]
  · simp (disch := omega) only [s_ne, s_up]; rw [e7 (b + 3) (by omega) (by omega)]
  · simp (disch := omega) only [s_ne, s_up]; rw [e7 (b + 4) (by omega) (by omega)]
  · simp (disch := omega) only [s_ne, s_up]; rw [e7 (b + 5) (by omega) (by omega)]
  · rw [s_ne a1]; exact e9 c a1 a2
  · rw [s_kn a2]; exact e10 k a1
  · simp (disch := omega) only [s_ne]; exact (e11 q).1
  · simp (disch := omega) only [s_ne]; exact (e11 q).2
/-- a pot is lost; σ0, τ0: the beds as they were when they were whole -/
theorem e_lose2 {s b H W h : Nat} {σ0 τ0 σ τ : z_M} (hA : SA s b σ τ) (hB : SB b H W σ0 τ0) (hh : h < 8) (f1 : ∀ c, c ≠ b + 3 → c ≠ b + 5 → σ c = σ0 c) (f2 : ∀ k, k ≠ h → σ (b + 3) k = σ0 (b + 3) k ∧ σ (b + 5) k = σ0 (b + 5) k) (f3 : ∀ c, c ≠ 1 → τ c = τ0 c) (f4 : ∀ k, k ≠ 76 + h → k ≠ 92 + h → τ 1 k = τ0 1 k) (w : Int32) : ∃ σ' τ', f7_lose s (nI h) w σ = some ((), σ') ∧ f12_loses (nI h) w τ = some ((), τ') ∧ ST s b H W σ0 τ0 σ' τ' ∧ (σ' b 7 = σ0 b 7 ∧ σ' b 6 = σ0 b 6) ∧ σ' (b + 2) h = -1 := by
  obtain ⟨sb, hb, -⟩ := SA_sb hA
  have hB' := hB
  obtain ⟨⟨b1, b2, b3, b4⟩, c1, ⟨n, hn, en⟩, c3, c4, c5⟩ := hB'
  obtain ⟨σ', τ', n', e1, e2, e3, e4, e5, e6, e7, e8, e9, e10, e11, e12, e13, e14, e15, e16⟩ := e_loseX (h := h) hA hn (by rw [f1 b (by omega) (by omega)]; exact en) (by rw [f4 2 (by omega) (by omega), b3, en]) (by rw [f4 0 (by omega) (by omega), f1 b (by omega) (by omega)]; exact b1) hh (by rw [f4 _ (by omega) (by omega), f1 _ (by omega) (by omega)]; exact (c4 h hh).1) w
  refine ⟨σ', τ', e1, e2, ⟨e3, ?_, fun c a1 a2 a3 a4 => ?_, fun q => ⟨?_, ?_⟩, fun c a1 a2 a3 a4 a5 => ?_, fun k a => ?_⟩, ?_, ?_⟩
  · have g0 : G_be H W (σ' b) (σ0 (b + 1)) (σ0 (b + 2)) (σ0 (b + 3)) (σ0 (b + 4)) (σ0 (b + 5)) (upd (τ0 1) 2 (nI n')) := G_be_leaf hB (fun k a => by rw [e8 k a, f1 b (by omega) (by omega)]) (fun k a => pk_un a) e4 e5 pk_us
    unfold SB
    rw [e7 (b + 1) (by omega) (by omega) (by omega), f1 (b + 1) (by omega) (by omega)]
    refine G_be_clr2 g0 hh ?_ ?_ ?_ ?_ e15 (fun k a => ⟨?_, ?_, ?_, ?_⟩) (fun k a1 a2 a3 => ?_)
    · rw [e9, pk_us]
    · rw [e10, pk_us]
    · rw [e11, pk_us]
    · rw [e12, pk_us]
    · rw [e9, pk_un a, f1 _ (by omega) (by omega)]
    · rw [e10, pk_un a, (f2 k a).1]
    · rw [e11, pk_un a, f1 _ (by omega) (by omega)]
    · rw [e12, pk_un a, (f2 k a).2]
    · by_cases k2 : k = 2
      · rw [k2, e6, pk_us]
      · rw [pk_un k2, e14 k k2 a1, f4 k a2 a3]
  · rw [e7 c (by omega) a2 (by omega), f1 c (by omega) (by omega)]
  · rw [(e16 q).1, f1 17 (by omega) (by omega)]
  · rw [(e16 q).2, f3 6 (by omega)]
  · rw [e13 c a2 a3, f3 c a2]
  · rw [e13 0 (by omega) (by omega), f3 0 (by omega)]
  · exact ⟨by rw [e8 7 (by omega), f1 b (by omega) (by omega)], by rw [e8 6 (by omega), f1 b (by omega) (by omega)]⟩
  · rw [e9, pk_us]
theorem e_lose {s b H W h : Nat} {σ τ : z_M} (hA : SA s b σ τ) (hB : SB b H W σ τ) (hh : h < 8) (w : Int32) : ∃ σ' τ', f7_lose s (nI h) w σ = some ((), σ') ∧ f12_loses (nI h) w τ = some ((), τ') ∧ ST s b H W σ τ σ' τ' ∧ (σ' b 7 = σ b 7 ∧ σ' b 6 = σ b 6) ∧ σ' (b + 2) h = -1 := e_lose2 hA hB hh (fun _ _ _ => rfl) (fun _ _ => ⟨rfl, rfl⟩) (fun _ _ => rfl) (fun _ _ _ => rfl) w
theorem e_put {s b H W h t x y : Nat} {σ τ : z_M} (hA : SA s b σ τ) (hB : SB b H W σ τ) (hH : H ≤ 8) (hh : h < H) (ht : t < 8) (hx : 1 ≤ x) (hx2 : x ≤ 99) (hy : y ≤ 9) (w : Int32) : ∃ σ' τ', z_bnd (f0_putPot b (nI h) (nI t) (nI x) (nI y) σ) (fun _ σ2 => f7_write s w (nI h) (nI t) σ2) = some ((), σ') ∧ f12_pots (nI h) (nI t) (nI x) (nI y) w τ = some ((), τ') ∧ ST s b H W σ τ σ' τ' ∧ (σ' b 7 = σ b 7 ∧ σ' b 6 = σ b 6) ∧ σ' (b + 2) = upd (σ (b + 2)) h (nI t) := by
  obtain ⟨sb, hb, -⟩ := SA_sb hA
  let σ0 := z_set (z_set (z_set (z_set σ (b + 2) h (nI t)) (b + 3) h (nI x)) (b + 4) h (nI y)) (b + 5) h 0
  let τ0 := z_set (z_set (z_set (z_set τ 1 (68 + h) (nI t + 1)) 1 (76 + h) (nI x)) 1 (84 + h) (nI y)) 1 (92 + h) 0
  have hB0 : SB b H W σ0 τ0 := by
    have g := G_be_put hB hH hh ht hx hx2 hy
    unfold SB
    show G_be H W (z_set (z_set (z_set (z_set σ (b + 2) h (nI t)) (b + 3) h (nI x)) (b + 4) h (nI y)) (b + 5) h 0 b) (z_set (z_set (z_set (z_set σ (b + 2) h (nI t)) (b + 3) h (nI x)) (b + 4) h (nI y)) (b + 5) h 0 (b + 1)) (z_set (z_set (z_set (z_set σ (b + 2) h (nI t)) (b + 3) h (nI x)) (b + 4) h (nI y)) (b + 5) h 0 (b + 2)) (z_set (z_set (z_set (z_set σ (b + 2) h (nI t)) (b + 3) h (nI x)) (b + 4) h (nI y)) (b + 5) h 0 (b + 3)) (z_set (z_set (z_set (z_set σ (b + 2) h (nI t)) (b + 3) h (nI x)) (b + 4) h (nI y)) (b + 5) h 0 (b + 4)) (z_set (z_set (z_set (z_set σ (b + 2) h (nI t)) (b + 3) h (nI x)) (b + 4) h (nI y)) (b + 5) h 0 (b + 5)) (z_set (z_set (z_set (z_set τ 1 (68 + h) (nI t + 1)) 1 (76 + h) (nI x)) 1 (84 + h) (nI y)) 1 (92 + h) 0 1)
    simp (disch := omega) only [s_ne, s_up]
    exact g
  have f1 : ∀ c, c < b ∨ b + 5 < c → σ0 c = σ c := fun c a => by
    show z_set (z_set (z_set (z_set σ (b + 2) h (nI t)) (b + 3) h (nI x)) (b + 4) h (nI y)) (b + 5) h 0 c = _
    simp (disch := omega) only [s_ne]
  have f2 : ∀ c, c ≠ 1 → τ0 c = τ c := fun c a => by
    show z_set (z_set (z_set (z_set τ 1 (68 + h) (nI t + 1)) 1 (76 + h) (nI x)) 1 (84 + h) (nI y)) 1 (92 + h) 0 c = _
    simp (disch := omega) only [s_ne]
  have hA0 : SA s b σ0 τ0 := SA_cong hA (f1 50 (by omega)) (f1 51 (by omega)) (f1 17 (by omega)) (by rw [f2 0 (by omega)]) (f2 6 (by omega))
  have hB' := hB0
  obtain ⟨⟨b1, b2, b3, b4⟩, c1, ⟨n, hn, en⟩, c3, c4, c5⟩ := hB'
  obtain ⟨σ1, τ1, n1, e1, e2, e3, e4, e5, e6, e7, e8, e9, e10, e11⟩ := e_note hA0 hn en (by rw [b3, en]) b1 w (nI h) (nI t)
  refine ⟨σ1, τ1, ?_, ?_, ⟨e3, ?_, fun c a1 a2 a3 a4 => ?_, fun q => ⟨?_, ?_⟩, fun c a1 a2 a3 a4 a5 => ?_, fun k a => ?_⟩, ?_, ?_⟩
  · rw [e0_putPot (by omega), q_bnd]; exact e1
  · unfold f12_pots
    simp (disch := omega) only [l_68, l_76, l_84, l_92, nI_add, k_cin, q_ix, q_let]
    show z_bnd (f12_notes w (nI h) (nI t) τ0) _ = _
    rw [e2, q_bnd]
  · have g := G_be_leaf hB0 e8 e10 e4 e5 e6
    unfold SB
    rw [e7 (b + 1) (by omega) (by omega), e7 (b + 2) (by omega) (by omega), e7 (b + 3) (by omega) (by omega), e7 (b + 4) (by omega) (by omega), e7 (b + 5) (by omega) (by omega)]
    exact g
  · rw [e7 c (by omega) a2, f1 c a1]
  · rw [(e11 q).1, f1 17 (by omega)]
  · rw [(e11 q).2, f2 6 (by omega)]
  · rw [e9 c a2 a3, f2 c a2]
  · rw [e9 0 (by omega) (by omega), f2 0 (by omega)]
  · rw [e8 7 (by omega), e8 6 (by omega)]
    show z_set (z_set (z_set (z_set σ (b + 2) h (nI t)) (b + 3) h (nI x)) (b + 4) h (nI y)) (b + 5) h 0 b 7 = _ ∧ z_set (z_set (z_set (z_set σ (b + 2) h (nI t)) (b + 3) h (nI x)) (b + 4) h (nI y)) (b + 5) h 0 b 6 = _
    simp (disch := omega) only [s_ne]
    exact ⟨trivial, trivial⟩
  · rw [e7 (b + 2) (by omega) (by omega)]
    show z_set (z_set (z_set (z_set σ (b + 2) h (nI t)) (b + 3) h (nI x)) (b + 4) h (nI y)) (b + 5) h 0 (b + 2) = _
    simp (disch := omega) only [s_ne, s_up]
theorem e_pour {s b H W h v : Nat} {σ τ : z_M} (hA : SA s b σ τ) (hB : SB b H W σ τ) (hh : h < 8) (hp : σ (b + 2) h ≠ -1) (hv : v ≤ 99) : ∃ σ' τ' w, f7_pour s (nI h) (nI v) σ = some ((), σ') ∧ f12_held (τ 1 (92 + h) + nI v) 0 99 τ = some (w, τ) ∧ τ' = z_set τ 1 (92 + h) w ∧ ST s b H W σ τ σ' τ' ∧ (∀ c, c ≠ b + 5 → σ' c = σ c) := by
  obtain ⟨sb, hb, -⟩ := SA_sb hA
  have hB' := hB
  obtain ⟨-, -, -, -, c4, -⟩ := hB'
  obtain ⟨q1, q2⟩ := c4 h hh
  rcases q2 with q2 | ⟨r1, r2, ⟨x, hx, hx2, ex⟩, r4, ⟨w, hw, ew⟩, r6, r7, r8⟩
  · exact absurd q2.1 hp
  refine ⟨z_set σ (b + 5) h (nI (min 99 (w + v))), _, nI (min 99 (w + v)), ?_, ?_, rfl, ⟨SA_cong hA ?_ ?_ ?_ ?_ ?_, ?_, fun c a1 a2 a3 a4 => ?_, fun q => ⟨?_, ?_⟩, fun c a1 a2 a3 a4 a5 => ?_, fun k a => ?_⟩, fun c a => s_ne a⟩
  · unfold f7_pour
    rw [k_cin _ hh (by omega), k_cin _ hh (by omega), q_ix (by omega), sb, ew, nI_add, l_99, s_min (by omega) (by omega), q_let]
  · rw [e12_held, r8, ew, nI_add, if_neg (nI_pos (by omega)), l_99]
    by_cases h9 : 99 < w + v
    · rw [if_pos (nI_lt h9 (by omega)), Nat.min_eq_left (by omega)]
    · rw [if_neg (nI_nlt (by omega) (by omega)), Nat.min_eq_right (by omega)]
  · simp (disch := omega) only [s_ne]
  · simp (disch := omega) only [s_ne]
  · simp (disch := omega) only [s_ne]
  · simp (disch := omega) only [s_ne]
  · simp (disch := omega) only [s_ne]
  · have g := G_be_hw (w := min 99 (w + v)) hB hh hp hx hx2 (by omega)
    unfold SB
    simp (disch := omega) only [s_ne, s_up]
    have e1 : upd (σ (b + 3)) h (nI x) = σ (b + 3) := by
      funext k
      rw [q_upd]
      split
      · rename_i e; rw [e, ex]
      · rfl
    have e2 : upd (τ 1) (76 + h) (nI x) = τ 1 := by
      funext k
      rw [q_upd]
      split
      · rename_i e; rw [e, r6, ex]
      · rfl
    rw [e1, e2] at g
    exact g
  · exact s_ne (by omega)
  · exact s_ne (by omega)
  · exact s_ne (by omega)
  · exact s_ne a2
  · rw [s_ne (by omega)]
theorem e0_believe {b h t v : Nat} (hh : h < 8) (ht : t < 8) (hv : v ≤ 100) (σ : z_M) : f0_believe b (nI h) (nI t) (nI v) σ = some ((), z_set σ (b + 1) (8 * h + t) (nI v)) := by
  unfold f0_believe
  rw [l_8, pk_mul, nI_add, k_cin _ (by omega) (by omega), q_ix (by omega), q_let, l_100, s_min (by omega) (by omega), l_0, s_max (by omega) (by omega), Nat.mul_comm h 8, Nat.min_eq_right hv, Nat.max_eq_right (Nat.zero_le v)]
theorem e_deg {s b H W h t v : Nat} {σ τ : z_M} (hA : SA s b σ τ) (hB : SB b H W σ τ) (hH : H ≤ 8) (hh : h < H) (ht : t < 8) (hv : v ≤ 100) : ST s b H W σ τ (z_set σ (b + 1) (8 * h + t) (nI v)) (z_set τ 1 (4 + (8 * h + t)) (nI v - 50)) := by
  obtain ⟨sb, hb, -⟩ := SA_sb hA
  refine ⟨SA_cong hA ?_ ?_ ?_ ?_ ?_, ?_, fun c a1 a2 a3 a4 => ?_, fun q => ⟨?_, ?_⟩, fun c a1 a2 a3 a4 a5 => ?_, fun k a => ?_⟩
  · exact s_ne (by omega)
  · exact s_ne (by omega)
  · exact s_ne (by omega)
  · rw [s_ne (by omega)]
  · exact s_ne (by omega)
  · have g := G_be_deg hB hH hh ht hv
    unfold SB
    simp (disch := omega) only [s_ne, s_up]
    exact g
  · exact s_ne (by omega)
  · exact s_ne (by omega)
  · exact s_ne (by omega)
  · exact s_ne a2
  · rw [s_ne (by omega)]
/-- the deeds, on both sides -/
theorem e12_canDo3 (p : Int32) (τ : z_M) : f12_canDo 3 p τ = some (1, τ) := rfl
theorem e12_canDo {k h : Nat} {v : Int32} (hk : k < 3) (hh : h < 8) (τ : z_M) (hv : τ 1 (68 + h) = v + 1) : f12_canDo (nI k) (nI h) τ = some (if (k = 0 ↔ v = -1) then 1 else 0, τ) := by
  unfold f12_canDo f12_canDo_J14 f12_canDo_J28
  rw [l_3, if_neg (by rw [nI_eq (by omega) (by omega)]; omega), e12_potOf' hh τ hv, q_bnd, q_bnd]
  by_cases h0 : k = 0
  · subst h0
    rw [if_pos nI_0]
    by_cases hv : v = -1
    · rw [if_pos hv, if_pos rfl, if_pos (by simp [hv])]
    · rw [if_neg hv, if_neg (by decide), if_neg (by simp [hv])]
  · rw [if_neg (nI_ne0 (by omega) (by omega))]
    by_cases hv : v = -1
    · rw [if_pos hv, if_neg (by decide), if_neg (by simp [hv, h0])]
    · rw [if_neg hv, if_pos rfl, if_pos (by simp [hv, h0])]
theorem e12_does0 {h : Nat} (t y : Int32) (τ τ' : z_M) (e : f12_pots (nI h) t 10 y 0 τ = some ((), τ')) : f12_does 0 (nI h) t y τ = some ((), τ') := by
  unfold f12_does f12_does_J15 f12_does_J26 f12_does_J58
  rw [if_pos rfl, e, q_bnd, if_neg (by decide), if_neg (by decide), if_neg (by decide)]
theorem e12_does1 {h : Nat} (t y : Int32) (τ τ' : z_M) (e : f12_loses (nI h) 1 τ = some ((), τ')) : f12_does 1 (nI h) t y τ = some ((), τ') := by
  unfold f12_does f12_does_J15 f12_does_J26 f12_does_J58
  rw [if_neg (by decide), if_pos rfl, e, q_bnd, if_neg (by decide), if_neg (by decide)]
theorem e12_does2 {h : Nat} (hh : h < 8) (v y w : Int32) (τ : z_M) (e : f12_held (τ 1 (92 + h) + v) 0 99 τ = some (w, τ)) : f12_does 2 (nI h) v y τ = some ((), z_set τ 1 (92 + h) w) := by
  unfold f12_does f12_does_J15 f12_does_J26 f12_does_J58
  rw [if_neg (by decide), if_neg (by decide), if_pos rfl, l_92, nI_add, k_cin _ (by omega) (by omega), q_ix (by omega), e, q_bnd, k_cin _ (by omega) (by omega), q_let, if_neg (by decide)]
theorem e12_does3 {h t : Nat} (hh : h < 8) (ht : t < 8) (v : Int32) (τ : z_M) : f12_does 3 (nI h) (nI t) v τ = some ((), z_set τ 1 (4 + (8 * h + t)) (v - 50)) := by
  unfold f12_does f12_does_J15 f12_does_J26 f12_does_J58
  rw [if_neg (by decide), if_neg (by decide), if_neg (by decide), if_pos rfl, e12_degreeBe hh ht, q_bnd]
/-- what the four calls need of the relation -/
theorem Rel0_SA {H : Nat} {σ τ : z_M} (h : Rel0 σ τ) (hN : R_now H σ τ) : SA 50 18 σ τ ∧ SB 18 H 999 σ τ := by
  obtain ⟨-, -, -, -, c1, c2, c3, -⟩ := h
  obtain ⟨-, -, -, -, -, -, -, -, g9, g10⟩ := hN
  exact ⟨.inl ⟨rfl, rfl, c1, c3, g9⟩, g10⟩
theorem Rel0_step {H : Nat} {σ τ σ1 τ1 σ2 τ2 : z_M} (h : Rel0 σ τ) (hN : R_now H σ τ) (hU : R_und H σ1 τ1) (f1 : ∀ x, x < 58 ∨ 95 < x → σ1 x = σ x) (f2 : ∀ x, x ≠ 0 → x ≠ 2 → τ1 x = τ x) (f3 : ∀ k, k ≠ 3 → τ1 0 k = τ 0 k) (hs : ST 50 18 H 999 σ1 τ1 σ2 τ2) : Rel0 σ2 τ2 := by
  obtain ⟨hA, hB, r1, r2, r3, r4⟩ := hs
  have hb : G_bo (σ2 17) (τ2 6) := by
    rcases hA with ⟨-, -, -, -, q⟩ | ⟨q, -⟩
    · exact q
    · exact absurd q (by omega)
  refine Rel0_beds h hN (R_und_cong hU (fun c a1 a2 => r1 c (by omega) (by omega) (by omega) (by omega)) (r3 2 (by omega) (by omega) (by omega) (by omega) (by omega)) (r4 3 (by omega))) hB hb (fun c a => ?_) (fun c a1 a2 a3 a4 a5 a6 a7 => ?_) (fun k a1 a2 => ?_)
  · rw [r1 c (by omega) (by omega) (by omega) (by omega)]; exact f1 c (by omega)
  · rw [r3 c a1 a2 a5 (by omega) (by omega)]; exact f2 c a1 a3
  · rw [r4 k a2]; exact f3 k a1
/-- SA, SB behind keep -/
theorem SA_keep {σ τ σ1 τ1 : z_M} (h : SA 50 18 σ τ) (f1 : ∀ x, x < 58 ∨ 95 < x → σ1 x = σ x) (f2 : ∀ x, x ≠ 0 → x ≠ 2 → τ1 x = τ x) (f3 : ∀ k, k ≠ 3 → τ1 0 k = τ 0 k) : SA 50 18 σ1 τ1 := SA_cong h (f1 50 (by omega)) (f1 51 (by omega)) (f1 17 (by omega)) (f3 5 (by omega)) (f2 6 (by omega) (by omega))
theorem SB_keep {H W : Nat} {σ τ σ1 τ1 : z_M} (h : SB 18 H W σ τ) (f1 : ∀ x, x < 58 ∨ 95 < x → σ1 x = σ x) (f2 : ∀ x, x ≠ 0 → x ≠ 2 → τ1 x = τ x) : SB 18 H W σ1 τ1 := by
  unfold SB
  rw [f1 18 (by omega), f1 (18 + 1) (by omega), f1 (18 + 2) (by omega), f1 (18 + 3) (by omega), f1 (18 + 4) (by omega), f1 (18 + 5) (by omega), f2 1 (by omega) (by omega)]
  exact h
