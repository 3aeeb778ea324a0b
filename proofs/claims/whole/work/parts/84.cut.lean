/-! the whole text cut, and read token by token -/
def pt (σ : z_M) (j : Nat) (k v pl : Int32) : z_M := z_set (z_set (z_set (z_set σ 98 j k) 99 j v) 100 j pl) 96 5 (nI (j + 1))
theorem e8_put {j : Nat} {k v pl : Int32} {σ : z_M} (hj : j ≤ 400) (h : σ 96 5 = nI j) : f8_put k v pl σ = some ((), pt σ j k v pl) := by
  have e1 : ∀ x, z_set σ 98 j x 96 5 = nI j := fun x => by rw [s_ne (by omega)]; exact h
  have e2 : ∀ x y, z_set (z_set σ 98 j x) 99 j y 96 5 = nI j := fun x y => by rw [s_ne (by omega)]; exact e1 x
  have e3 : ∀ x y z, z_set (z_set (z_set σ 98 j x) 99 j y) 100 j z 96 5 = nI j := fun x y z => by rw [s_ne (by omega)]; exact e2 x y
  unfold f8_put pt
  rw [h, if_neg (show ¬ 400 < nI j from nI_nlt (a := 400) (b := j) (by omega) (by omega)), k_cin _ (by omega) (by omega), q_ix (by omega), q_let, e1, k_cin _ (by omega) (by omega), q_ix (by omega), q_let, e2, k_cin _ (by omega) (by omega), q_ix (by omega), q_let, e3, nI_1, q_let]
def CF (σ σ' : z_M) : Prop := (∀ c, c ≠ 96 → c ≠ 98 → c ≠ 99 → c ≠ 100 → σ' c = σ c) ∧ ∀ k, k ≠ 5 → σ' 96 k = σ 96 k
theorem CF_trans {σ σ' σ'' : z_M} (h : CF σ σ') (g : CF σ' σ'') : CF σ σ'' := ⟨fun c a b d e => (g.1 c a b d e).trans (h.1 c a b d e), fun k a => (g.2 k a).trans (h.2 k a)⟩
theorem CF_pt {σ : z_M} {j : Nat} {k v pl : Int32} : CF σ (pt σ j k v pl) := by
  unfold pt
  exact ⟨fun c a b d e => by rw [s_ne a, s_ne e, s_ne d, s_ne b], fun x a => by rw [s_kn a, s_ne (by omega), s_ne (by omega), s_ne (by omega)]⟩
theorem pt_at {σ : z_M} {j x : Nat} {k v pl : Int32} : (pt σ j k v pl 98 x = if x = j then k else σ 98 x) ∧ (pt σ j k v pl 99 x = if x = j then v else σ 99 x) ∧ (pt σ j k v pl 100 x = if x = j then pl else σ 100 x) ∧ pt σ j k v pl 96 5 = nI (j + 1) := by
  unfold pt
  refine ⟨?_, ?_, ?_, s_eq⟩
  · rw [s_ne (by omega), s_ne (by omega), s_ne (by omega)]
    split
    · next e => rw [e, s_eq]
    · next e => rw [s_kn e]
  · rw [s_ne (by omega), s_ne (by omega)]
    split
    · next e => rw [e, s_eq]
    · next e => rw [s_kn e, s_ne (by omega)]
  · rw [s_ne (by omega)]
    split
    · next e => rw [e, s_eq]
    · next e => rw [s_kn e, s_ne (by omega), s_ne (by omega)]
theorem TC_CF {n : Nat} {b : Nat → Nat} {σ σ' : z_M} (h : TC n b σ) (m : CF σ σ') : TC n b σ' := by
  obtain ⟨h1, h2, h3⟩ := h
  exact ⟨h1, by rw [m.2 1 (by omega)]; exact h2, fun k hk => by rw [m.1 97 (by omega) (by omega) (by omega) (by omega)]; exact h3 k hk⟩
/-- the reference, at p, reads the token (k, v, pl) and stands at q -/
def RdAt (n : Nat) (b : Nat → Nat) (p q : Nat) (k v pl : Int32) : Prop := ∀ τ m, TM n b τ → (∀ k, k < 145 → τ 8 k = m_words k) → τ 0 15 = nI p → n - p < m → ∃ τ', f12_reads_L0 m τ = some ((), τ') ∧ MF τ τ' ∧ τ' 0 15 = nI q ∧ TokR k v pl (τ' 0 17) (τ' 0 18) (τ' 0 16)
theorem rd_end {n : Nat} {b : Nat → Nat} {v : Int32} : RdAt n b n n 43 v (nI n) := by
  intro τ m t1 _ t3 hm
  obtain ⟨m, rfl⟩ : ∃ k, m = k + 1 := ⟨m - 1, by omega⟩
  let τa := z_set (z_set τ 0 16 (nI n)) 0 17 1
  have ha : MF τ τa := MF_trans (MF_set (by omega)) (MF_set (by omega))
  have ha15 : τa 0 15 = nI n := by
    show z_set (z_set τ 0 16 (nI n)) 0 17 1 0 15 = _
    rw [s_kn (by omega), s_kn (by omega)]; exact t3
  refine ⟨z_set τa 0 17 0, ?_, MF_trans ha (MF_set (by omega)), by rw [s_kn (by omega)]; exact ha15, ?_, .inl ⟨rfl, s_eq⟩⟩
  · unfold f12_reads_L0
    rw [t3, e12_raw_end t1, q_bnd, if_neg (by decide), t3, e12_raw_end t1, q_bnd, if_neg (by decide)]
    unfold f12_reads_J39
    rw [t3, q_let, q_let]
    show z_bnd (f12_raw (τa 0 15) τa) _ = _
    rw [ha15, e12_raw_end (TM_MF t1 ha), q_bnd, if_pos rfl, q_let]
  · rw [s_kn (by omega)]
    show z_set (z_set τ 0 16 (nI n)) 0 17 1 0 16 = _
    rw [s_kn (by omega), s_eq]
theorem rd_blank {n p q : Nat} {b : Nat → Nat} {k v pl : Int32} (hp : p < n) (hb : b p = 32 ∨ b p = 10) (h : RdAt n b (p + 1) q k v pl) : RdAt n b p q k v pl := by
  intro τ m t1 t2 t3 hm
  obtain ⟨m, rfl⟩ : ∃ k, m = k + 1 := ⟨m - 1, by omega⟩
  have hs : MF τ (z_set τ 0 15 (nI (p + 1))) := MF_set (by omega)
  obtain ⟨τ', y1, y2, y3, y4⟩ := h (z_set τ 0 15 (nI (p + 1))) m (TM_MF t1 hs) (fun k hk => by rw [s_ne (by omega)]; exact t2 k hk) s_eq (by omega)
  refine ⟨τ', ?_, MF_trans hs y2, y3, y4⟩
  conv => lhs; unfold f12_reads_L0
  unfold f12_reads_J26
  rw [t3, e12_raw t1 hp, q_bnd, t3, e12_raw t1 hp, q_bnd, t3, nI_1, q_let, y1]
  rcases hb with hb | hb
  · rw [hb, if_pos (show nI 32 = 32 from rfl)]
  · rw [hb, if_neg (by decide), if_pos (show nI 10 = 10 from rfl)]
theorem rd_go {n p : Nat} {b : Nat → Nat} {τ : z_M} {m : Nat} (t1 : TM n b τ) (hp : p < n) (h32 : b p ≠ 32) (h10 : b p ≠ 10) (t3 : τ 0 15 = nI p) : f12_reads_L0 (m + 1) τ = f12_reads_J39 τ := by
  have hb := (t1.2.2 p hp).1
  have n1 : ¬ nI (b p) = 32 := fun q => by
    have q : nI (b p) = nI 32 := q
    rw [nI_eq (by omega) (by omega)] at q; exact h32 q
  have n2 : ¬ nI (b p) = 10 := fun q => by
    have q : nI (b p) = nI 10 := q
    rw [nI_eq (by omega) (by omega)] at q; exact h10 q
  conv => lhs; unfold f12_reads_L0
  rw [t3, e12_raw t1 hp, q_bnd, if_neg n1, t3, e12_raw t1 hp, q_bnd, if_neg n2]
theorem cut_all {n : Nat} {b : Nat → Nat} : ∀ r p, p + r = n → ∀ i j m (σ : z_M), i ≤ p → j ≤ p → r < m → TC n b σ → σ 96 5 = nI j → ∃ (σ' : z_M) (N : Nat) (P : Nat → Nat), f8_cut_L9 m (nI p) (nI i) σ = some ((), σ') ∧ CF σ σ' ∧ (∀ x, x < j → σ' 98 x = σ 98 x ∧ σ' 99 x = σ 99 x ∧ σ' 100 x = σ 100 x) ∧ j ≤ N ∧ N ≤ n ∧ P j = p ∧ ∀ x, j ≤ x → x ≤ N → P x ≤ n ∧ (σ' 98 x = 43 ↔ x = N) ∧ RdAt n b (P x) (P (x + 1)) (σ' 98 x) (σ' 99 x) (σ' 100 x) := by
  intro r
  induction r using Nat.strongRecOn with
  | ind r ih =>
  intro p h1 i j m σ hi hj hm h h5
  obtain ⟨m, rfl⟩ : ∃ k, m = k + 1 := ⟨m - 1, by omega⟩
  have hn := h.1
  by_cases hp : p < n
  · obtain ⟨hb, e97⟩ := h.2.2 p hp
    by_cases hbl : b p = 32 ∨ b p = 10
    · obtain ⟨σ', N, P, y1, y2, y3, y4, y5, y6, y7⟩ := ih (r - 1) (by omega) (p + 1) (by omega) (i + 1) j m σ (by omega) (by omega) (by omega) h h5
      refine ⟨σ', N, put P j p, ?_, y2, y3, y4, y5, put_eq, fun x x1 x2 => ?_⟩
      · rw [← y1]
        conv => lhs; unfold f8_cut_L9
        have e32 : isL 32 = false ∧ isD 32 = false ∧ isL 10 = false ∧ isD 10 = false := by decide
        rw [if_pos (show nI i < 400 from nI_lt (a := i) (b := 400) (by omega) (by omega)), h.2.1, if_pos (nI_lt (by omega) (by omega)), k_cin _ (by omega) (by omega), q_ix (by omega), e97, e8_isLetter hb, q_bnd, e8_isDigit hb, q_bnd, nI_1, nI_1]
        rcases hbl with hbl | hbl
        · rw [hbl, e32.1, e32.2.1, if_pos (by decide), if_pos (by decide), if_pos (show cb 32 = 32 by decide)]
        · rw [hbl, e32.2.2.1, e32.2.2.2, if_pos (by decide), if_pos (by decide), if_neg (show ¬ cb 10 = 32 by decide), if_pos (show cb 10 = 10 by decide)]
      · obtain ⟨z1, z2, z3⟩ := y7 x x1 x2
        rw [put_ne (show x + 1 ≠ j by omega)]
        by_cases ex : x = j
        · rw [ex, put_eq]
          rw [ex] at z2 z3
          rw [y6] at z3
          exact ⟨by omega, z2, rd_blank hp hbl z3⟩
        · rw [put_ne ex]; exact ⟨z1, z2, z3⟩
    · obtain ⟨e, k, v, k1, k2, k3, k4, k5⟩ := rd_tok h hp (fun q => hbl (.inl q)) (fun q => hbl (.inr q))
      have hpt := fun x => pt_at (σ := σ) (j := j) (x := x) (k := k) (v := v) (pl := nI p)
      obtain ⟨σ', N, P, y1, y2, y3, y4, y5, y6, y7⟩ := ih (n - e) (by omega) e (by omega) (i + 1) (j + 1) m (pt σ j k v (nI p)) (by omega) (by omega) (by omega) (TC_CF h CF_pt) (hpt 0).2.2.2
      obtain ⟨w1, w2, w3⟩ := y3 j (by omega)
      rw [(hpt j).1, if_pos rfl] at w1
      rw [(hpt j).2.1, if_pos rfl] at w2
      rw [(hpt j).2.2.1, if_pos rfl] at w3
      refine ⟨σ', N, put P j p, ?_, CF_trans CF_pt y2, fun x hx => ?_, by omega, y5, put_eq, fun x x1 x2 => ?_⟩
      · rw [k4 m i (by omega), e8_put (by omega) h5, q_bnd]; exact y1
      · obtain ⟨u1, u2, u3⟩ := y3 x (by omega)
        rw [(hpt x).1, if_neg (by omega)] at u1
        rw [(hpt x).2.1, if_neg (by omega)] at u2
        rw [(hpt x).2.2.1, if_neg (by omega)] at u3
        exact ⟨u1, u2, u3⟩
      · rw [put_ne (show x + 1 ≠ j by omega)]
        by_cases ex : x = j
        · rw [ex, put_eq, w1, w2, w3, y6]
          refine ⟨by omega, ⟨fun q => absurd q k3, fun q => absurd q (by omega)⟩, fun τ m' t1 t2 t3 hm' => ?_⟩
          obtain ⟨m', rfl⟩ : ∃ k, m' = k + 1 := ⟨m' - 1, by omega⟩
          rw [rd_go t1 hp (fun q => hbl (.inl q)) (fun q => hbl (.inr q)) t3]
          exact k5 τ t1 t2 t3
        · rw [put_ne ex]; exact y7 x (by omega) x2
  · obtain rfl : p = n := by omega
    have hpt := fun x => pt_at (σ := σ) (j := j) (x := x) (k := 43) (v := 0) (pl := nI p)
    refine ⟨pt σ j 43 0 (nI p), j, fun _ => p, ?_, CF_pt, fun x hx => ?_, Nat.le_refl _, hj, rfl, fun x x1 x2 => ?_⟩
    · unfold f8_cut_L9 f8_cut_J141
      rw [h.2.1, if_neg (nI_nlt (by omega) (by omega)), ite_self, e8_put (by omega) h5, q_bnd]
    · rw [(hpt x).1, (hpt x).2.1, (hpt x).2.2.1, if_neg (by omega), if_neg (by omega), if_neg (by omega)]
      exact ⟨rfl, rfl, rfl⟩
    · obtain rfl : x = j := by omega
      rw [(hpt x).1, (hpt x).2.1, (hpt x).2.2.1, if_pos rfl, if_pos rfl, if_pos rfl]
      exact ⟨Nat.le_refl _, ⟨fun _ => rfl, fun _ => rfl⟩, rd_end⟩
