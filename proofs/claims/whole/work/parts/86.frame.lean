/-! what a reader may change -/
def XC (σ σ' : z_M) : Prop := (∀ c, c ≤ 100 → σ' c = σ c) ∧ σ' 101 5 = σ 101 5 ∧ σ' 101 6 = σ 101 6
def XM (τ τ' : z_M) : Prop := (∀ c, c ≠ 0 → c < 10 ∨ 19 < c → τ' c = τ c) ∧ (∀ k, k < 15 ∨ (18 < k ∧ k < 27) ∨ 33 < k → τ' 0 k = τ 0 k) ∧ (∀ c, 10 ≤ c → c ≤ 13 → ∀ i, i < 32 → τ' c i = τ c i) ∧ (∀ i, i < 800 → τ' 14 i = τ 14 i ∧ τ' 15 i = τ 15 i) ∧ (∀ i, i < 48 → τ' 17 i = τ 17 i) ∧ (∀ i, i < 36 → τ' 18 i = τ 18 i) ∧ ∀ i, i < 80 → τ' 19 i = τ 19 i
theorem XC_refl (σ : z_M) : XC σ σ := ⟨fun _ _ => rfl, rfl, rfl⟩
theorem XC_trans {σ σ' σ'' : z_M} (h : XC σ σ') (g : XC σ' σ'') : XC σ σ'' := ⟨fun c a => (g.1 c a).trans (h.1 c a), g.2.1.trans h.2.1, g.2.2.trans h.2.2⟩
theorem XM_refl (τ : z_M) : XM τ τ := ⟨fun _ _ _ => rfl, fun _ _ => rfl, fun _ _ _ _ _ => rfl, fun _ _ => ⟨rfl, rfl⟩, fun _ _ => rfl, fun _ _ => rfl, fun _ _ => rfl⟩
theorem XM_trans {τ τ' τ'' : z_M} (h : XM τ τ') (g : XM τ' τ'') : XM τ τ'' := by
  obtain ⟨h1, h2, h3, h4, h5, h6, h7⟩ := h
  obtain ⟨g1, g2, g3, g4, g5, g6, g7⟩ := g
  exact ⟨fun c a b => (g1 c a b).trans (h1 c a b), fun k a => (g2 k a).trans (h2 k a), fun c a b i d => (g3 c a b i d).trans (h3 c a b i d), fun i a => ⟨(g4 i a).1.trans (h4 i a).1, (g4 i a).2.trans (h4 i a).2⟩, fun i a => (g5 i a).trans (h5 i a), fun i a => (g6 i a).trans (h6 i a), fun i a => (g7 i a).trans (h7 i a)⟩
theorem XM_MF {τ τ' : z_M} (h : MF τ τ') : XM τ τ' := by
  obtain ⟨h1, h2⟩ := h
  exact ⟨fun c a _ => h1 c a, fun k a => h2 k (by omega), fun c a _ i _ => by rw [h1 c (by omega)], fun i _ => by rw [h1 14 (by omega), h1 15 (by omega)]; exact ⟨rfl, rfl⟩, fun i _ => by rw [h1 17 (by omega)], fun i _ => by rw [h1 18 (by omega)], fun i _ => by rw [h1 19 (by omega)]⟩
theorem XM_0 {τ : z_M} {k : Nat} {v : Int32} (hk : 27 ≤ k ∧ k ≤ 33) : XM τ (z_set τ 0 k v) :=
  ⟨fun c a _ => s_ne a, fun j a => s_kn (by omega), fun c a _ i _ => by rw [s_ne (by omega)], fun i _ => by rw [s_ne (by omega), s_ne (by omega)]; exact ⟨rfl, rfl⟩, fun i _ => by rw [s_ne (by omega)], fun i _ => by rw [s_ne (by omega)], fun i _ => by rw [s_ne (by omega)]⟩
theorem XM_FM {τ : z_M} {f p : Int32} : XM τ (FM τ f p) := XM_trans (XM_0 (by omega)) (XM_0 (by omega))
theorem XM_16 {τ : z_M} {k : Nat} {v : Int32} : XM τ (z_set τ 16 k v) :=
  ⟨fun c _ a => s_ne (by omega), fun j a => by rw [s_ne (by omega)], fun c a _ i _ => by rw [s_ne (by omega)], fun i _ => by rw [s_ne (by omega), s_ne (by omega)]; exact ⟨rfl, rfl⟩, fun i _ => by rw [s_ne (by omega)], fun i _ => by rw [s_ne (by omega)], fun i _ => by rw [s_ne (by omega)]⟩
theorem XM_17 {τ : z_M} {k : Nat} {v : Int32} (hk : 48 ≤ k) : XM τ (z_set τ 17 k v) :=
  ⟨fun c _ a => s_ne (by omega), fun j a => by rw [s_ne (by omega)], fun c a _ i _ => by rw [s_ne (by omega)], fun i _ => by rw [s_ne (by omega), s_ne (by omega)]; exact ⟨rfl, rfl⟩, fun i _ => s_kn (by omega), fun i _ => by rw [s_ne (by omega)], fun i _ => by rw [s_ne (by omega)]⟩
theorem XM_18 {τ : z_M} {k : Nat} {v : Int32} (hk : 36 ≤ k) : XM τ (z_set τ 18 k v) :=
  ⟨fun c _ a => s_ne (by omega), fun j a => by rw [s_ne (by omega)], fun c a _ i _ => by rw [s_ne (by omega)], fun i _ => by rw [s_ne (by omega), s_ne (by omega)]; exact ⟨rfl, rfl⟩, fun i _ => by rw [s_ne (by omega)], fun i _ => s_kn (by omega), fun i _ => by rw [s_ne (by omega)]⟩
theorem XM_19 {τ : z_M} {k : Nat} {v : Int32} (hk : 80 ≤ k) : XM τ (z_set τ 19 k v) :=
  ⟨fun c _ a => s_ne (by omega), fun j a => by rw [s_ne (by omega)], fun c a _ i _ => by rw [s_ne (by omega)], fun i _ => by rw [s_ne (by omega), s_ne (by omega)]; exact ⟨rfl, rfl⟩, fun i _ => by rw [s_ne (by omega)], fun i _ => by rw [s_ne (by omega)], fun i _ => s_kn (by omega)⟩
theorem XC_101 {σ : z_M} {k : Nat} {v : Int32} (h5 : k ≠ 5) (h6 : k ≠ 6) : XC σ (z_set σ 101 k v) := ⟨fun c a => s_ne (by omega), s_kn (by omega), s_kn (by omega)⟩
theorem XC_FC {σ : z_M} {f p : Int32} : XC σ (FC σ f p) := XC_trans (XC_101 (by omega) (by omega)) (XC_101 (by omega) (by omega))
theorem XC_c {σ : z_M} {c k : Nat} {v : Int32} (hc : 102 ≤ c) : XC σ (z_set σ c k v) := ⟨fun d a => s_ne (by omega), by rw [s_ne (by omega)], by rw [s_ne (by omega)]⟩
/-- the groups, where the reference's rows agree as far as they are told -/
theorem G_re_mc {ln mn : Int32} {ce mr mr' : Nat → Int32} (h : G_re ln mn ce mr) (e : ∀ i, i < 48 → mr' i = mr i) : G_re ln mn ce mr' := by
  obtain ⟨n, h1, h2, h3, h4⟩ := h
  refine ⟨n, h1, h2, h3, fun i hi => ?_⟩
  rw [e (3 * i) (by omega), e (3 * i + 1) (by omega), e (3 * i + 2) (by omega)]
  exact h4 i hi
theorem G_wo_mc {H : Nat} {ln mn : Int32} {ce mr mr' : Nat → Int32} (h : G_wo H ln mn ce mr) (e : ∀ i, i < 36 → mr' i = mr i) : G_wo H ln mn ce mr' := by
  obtain ⟨n, h1, h2, h3, h4⟩ := h
  refine ⟨n, h1, h2, h3, fun i hi => ?_⟩
  rw [e (3 * i) (by omega), e (3 * i + 1) (by omega), e (3 * i + 2) (by omega)]
  exact h4 i hi
theorem G_pl_mc {H : Nat} {ln mn : Int32} {ce mr mr' : Nat → Int32} (h : G_pl H ln mn ce mr) (e : ∀ i, i < 80 → mr' i = mr i) : G_pl H ln mn ce mr' := by
  obtain ⟨n, h1, h2, h3, h4⟩ := h
  refine ⟨n, h1, h2, h3, fun i hi => ?_⟩
  rw [e (5 * i) (by omega), e (5 * i + 1) (by omega), e (5 * i + 2) (by omega), e (5 * i + 3) (by omega), e (5 * i + 4) (by omega)]
  exact h4 i hi
theorem G_la_mc {ln co mn : Int32} {ce cd mW mF mN mT op ar mW' mF' mN' mT' op' ar' : Nat → Int32} (h : G_la ln co mn ce cd mW mF mN mT op ar) (e : ∀ i, i < 16 → mW' i = mW i ∧ mF' i = mF i ∧ mN' i = mN i ∧ mT' i = mT i) (g : ∀ i, i < 400 → op' i = op i ∧ ar' i = ar i) : G_la ln co mn ce cd mW' mF' mN' mT' op' ar' := by
  obtain ⟨n, k, h1, h2, h3, h4, h5, h6, h7⟩ := h
  refine ⟨n, k, h1, h2, h3, h4, h5, fun i hi => ?_, fun i hi => ?_⟩
  · obtain ⟨g1, g2⟩ := g i (by omega)
    rw [g1, g2]; exact h6 i hi
  · obtain ⟨e1, e2, e3, e4⟩ := e i (by omega)
    rw [e1, e2, e3, e4]; exact h7 i hi
/-- the same frame, without the slots of the tape and of the told fault -/
def XW (τ τ' : z_M) : Prop := (∀ c, c ≠ 0 → c < 10 ∨ 19 < c → τ' c = τ c) ∧ (∀ k, k < 14 ∨ (18 < k ∧ k < 27) ∨ 35 < k → k ≠ 0 → τ' 0 k = τ 0 k) ∧ (∀ c, 10 ≤ c → c ≤ 13 → ∀ i, i < 32 → τ' c i = τ c i) ∧ (∀ i, i < 800 → τ' 14 i = τ 14 i ∧ τ' 15 i = τ 15 i) ∧ (∀ i, i < 48 → τ' 17 i = τ 17 i) ∧ (∀ i, i < 36 → τ' 18 i = τ 18 i) ∧ ∀ i, i < 80 → τ' 19 i = τ 19 i
theorem XW_trans {τ τ' τ'' : z_M} (h : XW τ τ') (g : XW τ' τ'') : XW τ τ'' := by
  obtain ⟨h1, h2, h3, h4, h5, h6, h7⟩ := h
  obtain ⟨g1, g2, g3, g4, g5, g6, g7⟩ := g
  exact ⟨fun c a b => (g1 c a b).trans (h1 c a b), fun k a b => (g2 k a b).trans (h2 k a b), fun c a b i d => (g3 c a b i d).trans (h3 c a b i d), fun i a => ⟨(g4 i a).1.trans (h4 i a).1, (g4 i a).2.trans (h4 i a).2⟩, fun i a => (g5 i a).trans (h5 i a), fun i a => (g6 i a).trans (h6 i a), fun i a => (g7 i a).trans (h7 i a)⟩
theorem XW_of {τ τ' : z_M} (h : XM τ τ') : XW τ τ' := by
  obtain ⟨h1, h2, h3, h4, h5, h6, h7⟩ := h
  exact ⟨h1, fun k a _ => h2 k (by omega), h3, h4, h5, h6, h7⟩
theorem XW_0 {τ : z_M} {k : Nat} {v : Int32} (hk : k = 0 ∨ (14 ≤ k ∧ k ≤ 18) ∨ (27 ≤ k ∧ k ≤ 35)) : XW τ (z_set τ 0 k v) :=
  ⟨fun c a _ => s_ne a, fun j a b => s_kn (by omega), fun c a _ i _ => by rw [s_ne (by omega)], fun i _ => by rw [s_ne (by omega), s_ne (by omega)]; exact ⟨rfl, rfl⟩, fun i _ => by rw [s_ne (by omega)], fun i _ => by rw [s_ne (by omega)], fun i _ => by rw [s_ne (by omega)]⟩
def dr (τ τ' : z_M) : z_M := fun c => if (10 ≤ c ∧ c ≤ 15) ∨ (17 ≤ c ∧ c ≤ 19) then τ' c else τ c
theorem dr_in {τ τ' : z_M} {c : Nat} (h : (10 ≤ c ∧ c ≤ 15) ∨ (17 ≤ c ∧ c ≤ 19)) : dr τ τ' c = τ' c := if_pos h
theorem dr_out {τ τ' : z_M} {c : Nat} (h : ¬ ((10 ≤ c ∧ c ≤ 15) ∨ (17 ≤ c ∧ c ≤ 19))) : dr τ τ' c = τ c := if_neg h
theorem Rel0_dr {σ τ τ' : z_M} (h : Rel0 σ τ) (hm : XW τ τ') : Rel0 σ (dr τ τ') := by
  obtain ⟨⟨H, hN, hU⟩, hI, hT, hF, hC⟩ := h
  obtain ⟨g1, g2, g3, g4, g5, g6, g7, g8, g9, g10⟩ := hN
  obtain ⟨x1, x2, x3, x4, x5, x6, x7⟩ := hm
  have o : ∀ c, ¬ ((10 ≤ c ∧ c ≤ 15) ∨ (17 ≤ c ∧ c ≤ 19)) → dr τ τ' c = τ c := fun c q => dr_out q
  have hs : m_sc (dr τ τ') = m_sc τ := by
    unfold m_sc
    rw [o 0 (by omega)]
  refine ⟨⟨H, ?_, R_und_cong hU (fun _ _ _ => rfl) (o 2 (by omega)) (by rw [o 0 (by omega)])⟩, ?_, ?_, ?_, ?_⟩
  · unfold R_now
    rw [o 1 (by omega), hs, o 4 (by omega), o 5 (by omega), o 29 (by omega), o 30 (by omega), o 31 (by omega), o 6 (by omega), o 9 (by omega), dr_in (show (10 ≤ 17 ∧ 17 ≤ 15) ∨ (17 ≤ 17 ∧ 17 ≤ 19) by omega), dr_in (show (10 ≤ 18 ∧ 18 ≤ 15) ∨ (17 ≤ 18 ∧ 18 ≤ 19) by omega), dr_in (show (10 ≤ 19 ∧ 19 ≤ 15) ∨ (17 ≤ 19 ∧ 19 ≤ 19) by omega), dr_in (show (10 ≤ 10 ∧ 10 ≤ 15) ∨ (17 ≤ 10 ∧ 10 ≤ 19) by omega), dr_in (show (10 ≤ 11 ∧ 11 ≤ 15) ∨ (17 ≤ 11 ∧ 11 ≤ 19) by omega), dr_in (show (10 ≤ 12 ∧ 12 ≤ 15) ∨ (17 ≤ 12 ∧ 12 ≤ 19) by omega), dr_in (show (10 ≤ 13 ∧ 13 ≤ 15) ∨ (17 ≤ 13 ∧ 13 ≤ 19) by omega), dr_in (show (10 ≤ 14 ∧ 14 ≤ 15) ∨ (17 ≤ 14 ∧ 14 ≤ 19) by omega), dr_in (show (10 ≤ 15 ∧ 15 ≤ 15) ∨ (17 ≤ 15 ∧ 15 ≤ 19) by omega)]
    exact ⟨g1, g2, g3, G_re_mc g4 x5, G_la_mc g5 (fun i hi => ⟨x3 10 (by omega) (by omega) _ (by omega), x3 11 (by omega) (by omega) _ (by omega), x3 12 (by omega) (by omega) _ (by omega), x3 13 (by omega) (by omega) _ (by omega)⟩) (fun i hi => x4 _ (by omega)), G_wo_mc g6 x6, G_pl_mc g7 x7, g8, g9, g10⟩
  · unfold R_img at hI ⊢
    rw [o 33 (by omega), o 0 (by omega)]; exact hI
  · unfold R_tap at hT ⊢
    rw [o 0 (by omega), o 7 (by omega)]; exact hT
  · rw [o 0 (by omega)]; exact hF
  · rw [o 0 (by omega), o 8 (by omega)]; exact hC
/-- the relation, after a text that was read and not taken; the tape is empty -/
theorem Rel0_read {σ τ σ' τ' : z_M} (h : Rel0 σ τ) (hc : ∀ c, c ≤ 95 → σ' c = σ c) (hm : XW τ τ') (h96 : σ' 96 1 = 0) (h14 : τ' 0 14 = 0) (hf : σ' 101 2 = τ' 0 34 ∧ σ' 101 3 = τ' 0 35) : Rel0 σ' τ' := by
  refine Rel0_frame (Rel0_dr h hm) (fun c hq => hc c (by omega)) (by rw [hc 50 (by omega)]) (by rw [hc 51 (by omega)]) (fun c hq => ?_) (fun k hk => ?_) ⟨0, by omega, h96, h14, fun k hk => absurd hk (by omega)⟩ hf
  · by_cases q : (10 ≤ c ∧ c ≤ 15) ∨ (17 ≤ c ∧ c ≤ 19)
    · rw [dr_in q]
    · rw [dr_out q]
      unfold K_m at hq
      exact hm.1 c (by omega) (by omega)
  · rw [dr_out (by omega)]
    unfold K_0 at hk
    exact hm.2.1 k (by omega) (by omega)
