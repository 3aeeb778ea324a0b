/-! THE LAW, told on both sides -/
def LC (K : Nat) (σ τ : z_M) : Prop := K ≤ 400 ∧ σ 7 3 = nI K ∧ (∀ i, i < K → C_rel (σ 9 i) (τ 14 (400 + i)) (τ 15 (400 + i))) ∧ ∀ k, k < 8 → σ 48 k = τ 20 k
theorem LC_cong {K : Nat} {σ τ σ' τ' : z_M} (h : LC K σ τ) (e1 : ∀ c, c ≠ 49 → σ' c = σ c) (e2 : ∀ c, c ≠ 21 → τ' c = τ c) : LC K σ' τ' := by
  unfold LC at h ⊢
  rw [e1 7 (by omega), e1 9 (by omega), e1 48 (by omega), e2 14 (by omega), e2 15 (by omega), e2 20 (by omega)]; exact h
/-- values that lie on both stacks -/
def SV : List Bool → (Nat → Int32) → (Nat → Int32) → Prop
  | [], _, _ => True
  | b :: s, f, g => f s.length = g s.length ∧ (b = true → f s.length = 0 ∨ f s.length = 1) ∧ SV s f g
theorem SV_cong {f g f' g' : Nat → Int32} : ∀ {s : List Bool}, SV s f g → (∀ j, j < s.length → f' j = f j ∧ g' j = g j) → SV s f' g'
  | [], _, _ => trivial
  | b :: s, h, e => by
    have e1 := e s.length (by simp)
    refine ⟨?_, ?_, SV_cong h.2.2 (fun j hj => e j (by simp; omega))⟩
    · rw [e1.1, e1.2]; exact h.1
    · rw [e1.1]; exact h.2.1
theorem w_push {K t i n L : Nat} {σ τ : z_M} {v : Int32} (hL : LC K σ τ) (hi : i < t) (ht : t ≤ K) (hlen : L < 32) (hv : (¬ σ 9 i < 64 ∧ v = σ 9 i - 64) ∨ ∃ k, k < 8 ∧ σ 9 i = nI k ∧ v = σ 48 k) : f5_worthOf_L6 (n + 1) 7 (nI t) (nI L) (nI i) σ = f5_worthOf_L6 n 7 (nI t) (nI (L + 1)) (nI (i + 1)) (z_set σ 49 L v) := by
  have hK := hL.1
  have hl32 : nI L < 32 := nI_lt (b := 32) hlen (by omega)
  conv => lhs; unfold f5_worthOf_L6
  unfold f5_worthOf_J44 f5_worthOf_J82
  rw [if_pos (nI_lt hi (by omega)), hL.2.1, if_pos (nI_lt (by omega) (by omega)), show S1.2.1 (7 + 2) = 400 from rfl, k_cin _ (by omega) (by omega), q_ix (by omega), show σ (7 + 2) i = σ 9 i from rfl]
  rcases hv with ⟨h1, rfl⟩ | ⟨k, hk, e, rfl⟩
  · rw [if_neg h1, if_pos hl32, if_neg h1, k_cin _ hlen (by omega), q_ix (by omega), q_let, nI_1, nI_1]
  · have c1 : nI k < 64 := nI_lt (b := 64) (by omega) (by omega)
    have c2 : ¬ 7 < nI k := nI_nlt (a := 7) (by omega) (by omega)
    rw [e, if_pos c1, if_neg c2, if_pos hl32, if_pos c1, k_cin _ hk (by omega), q_ix (show k < 2 ^ 31 by omega), k_cin _ hlen (by omega), q_ix (by omega), q_let, nI_1, nI_1]
theorem w_bin {K t i n L : Nat} {σ τ : z_M} {x : Int32} (hL : LC K σ τ) (hi : i < t) (ht : t ≤ K) (hlen : L + 1 < 32) (c1 : σ 9 i < 64) (c2 : 7 < σ 9 i) (c3 : ¬ σ 9 i = 14) (hj : f5_joined (σ 9 i) (σ 49 L) (σ 49 (L + 1)) σ = some (x, σ)) : f5_worthOf_L6 (n + 1) 7 (nI t) (nI (L + 2)) (nI i) σ = f5_worthOf_L6 n 7 (nI t) (nI (L + 1)) (nI (i + 1)) (z_set σ 49 L x) := by
  have hK := hL.1
  have h1 : (1 : Int32) < nI (L + 2) := nI_lt (a := 1) (by omega) (by omega)
  have e1 : nI (L + 2) + (-1) = nI (L + 1) := pk_m1 (L + 1)
  have e2 : nI (L + 1) - 1 = nI L := nI_pred L
  conv => lhs; unfold f5_worthOf_L6
  unfold f5_worthOf_J124
  rw [if_pos (nI_lt hi (by omega)), hL.2.1, if_pos (nI_lt (by omega) (by omega)), show S1.2.1 (7 + 2) = 400 from rfl, k_cin _ (by omega) (by omega), q_ix (show i < 2 ^ 31 by omega), show σ (7 + 2) i = σ 9 i from rfl, if_pos c1, if_pos c2, if_neg c3, if_pos h1, e1, e2, k_cin _ (by omega) (by omega), k_cin _ (by omega) (by omega), q_ix (show L < 2 ^ 31 by omega), q_ix (by omega), hj, q_bnd, k_cin _ (by omega) (by omega), q_let, nI_1]
theorem w_not {K t i n L : Nat} {σ τ : z_M} (hL : LC K σ τ) (hi : i < t) (ht : t ≤ K) (hlen : L < 32) (c : σ 9 i = 14) : f5_worthOf_L6 (n + 1) 7 (nI t) (nI (L + 1)) (nI i) σ = f5_worthOf_L6 n 7 (nI t) (nI (L + 1)) (nI (i + 1)) (z_set σ 49 L (1 - σ 49 L)) := by
  have hK := hL.1
  have h1 : (0 : Int32) < nI (L + 1) := nI_lt (a := 0) (by omega) (by omega)
  have e2 : nI (L + 1) - 1 = nI L := nI_pred L
  conv => lhs; unfold f5_worthOf_L6
  rw [if_pos (nI_lt hi (by omega)), hL.2.1, if_pos (nI_lt (by omega) (by omega)), show S1.2.1 (7 + 2) = 400 from rfl, k_cin _ (by omega) (by omega), q_ix (show i < 2 ^ 31 by omega), show σ (7 + 2) i = σ 9 i from rfl, c, if_pos (by decide), if_pos (by decide), if_pos rfl, if_pos h1, e2, k_cin _ hlen (by omega), k_cin _ hlen (by omega), q_ix (by omega), q_let, nI_1]
theorem m_hd {t : Nat} (ht : t ≤ 400) : 400 * (1 : Int32) + nI t = nI (400 + t) := by
  rw [l_400, l_1, pk_mul, nI_add]
theorem m_push {t i n L : Nat} {τ : z_M} {v : Int32} (hi : i < t) (ht : t ≤ 400) (hlen : L < 400) (hv : (τ 14 (400 + i) = 0 ∧ v = τ 15 (400 + i)) ∨ ∃ k, k < 8 ∧ τ 14 (400 + i) = 1 ∧ τ 15 (400 + i) = nI k ∧ v = τ 20 k) : f12_runs_L12 (n + 1) 1 (nI t) (nI L) (nI (400 + i)) τ = f12_runs_L12 n 1 (nI t) (nI (L + 1)) (nI (400 + (i + 1))) (z_set τ 21 L v) := by
  conv => lhs; unfold f12_runs_L12
  unfold f12_runs_J45 f12_runs_J83
  rw [m_hd ht, if_pos (nI_lt (by omega) (by omega)), q_ix (show 400 + i < 2 ^ 31 by omega), q_ix (show L < 2 ^ 31 by omega), nI_1, nI_1, Nat.add_assoc]
  simp (disch := omega) only [k_cin, q_let]
  rcases hv with ⟨h1, rfl⟩ | ⟨k, hk, h1, h2, rfl⟩
  · rw [if_pos h1, if_pos h1]
  · have h0 : ¬ τ 14 (400 + i) = 0 := by rw [h1]; decide
    rw [if_neg h0, if_pos h1, if_neg h0, h2, k_cin _ hk (by omega), q_ix (show k < 2 ^ 31 by omega)]
theorem m_bin {t i n L : Nat} {τ : z_M} {x : Int32} (hi : i < t) (ht : t ≤ 400) (hlen : L < 400) (c0 : ¬ τ 14 (400 + i) = 0) (c1 : ¬ τ 14 (400 + i) = 1) (c9 : ¬ τ 14 (400 + i) = 9) (hj : f12_twoOf (τ 14 (400 + i)) (τ 21 L) (τ 21 (L + 1)) τ = some (x, τ)) : f12_runs_L12 (n + 1) 1 (nI t) (nI (L + 2)) (nI (400 + i)) τ = f12_runs_L12 n 1 (nI t) (nI (L + 1)) (nI (400 + (i + 1))) (z_set τ 21 L x) := by
  have e1 : nI (L + 2) - 1 = nI (L + 1) := nI_pred (L + 1)
  have e2 : nI (L + 1) - 1 = nI L := nI_pred L
  conv => lhs; unfold f12_runs_L12
  rw [m_hd ht, if_pos (nI_lt (by omega) (by omega)), e1, e2, q_ix (show 400 + i < 2 ^ 31 by omega), q_ix (show L < 2 ^ 31 by omega), q_ix (show L + 1 < 2 ^ 31 by omega)]
  simp (disch := omega) only [k_cin, q_let]
  rw [if_neg c0, if_neg c1, if_neg c9, hj, q_bnd, nI_1, Nat.add_assoc]
theorem m_not {t i n L : Nat} {τ : z_M} (hi : i < t) (ht : t ≤ 400) (hlen : L < 400) (c9 : τ 14 (400 + i) = 9) : f12_runs_L12 (n + 1) 1 (nI t) (nI (L + 1)) (nI (400 + i)) τ = f12_runs_L12 n 1 (nI t) (nI (L + 1)) (nI (400 + (i + 1))) (z_set τ 21 L (1 - τ 21 L)) := by
  have e2 : nI (L + 1) - 1 = nI L := nI_pred L
  conv => lhs; unfold f12_runs_L12
  rw [m_hd ht, if_pos (nI_lt (by omega) (by omega)), e2, k_cin _ (by omega) (by omega), k_cin _ (by omega) (by omega), k_cin _ (by omega) (by omega), k_cin _ (by omega) (by omega), k_cin _ (by omega) (by omega), q_ix (show 400 + i < 2 ^ 31 by omega), q_ix (show L < 2 ^ 31 by omega), c9, if_neg (by decide), if_neg (by decide), if_pos rfl, q_let, nI_1, Nat.add_assoc]
/-- two values joined, on both sides -/
theorem j_rel {c o a x y : Int32} (σ τ : z_M) (h : C_rel c o a) (hn : ¬ (64 ≤ c ∨ c ≤ 7)) (h14 : ¬ c = 14) (h36 : c = 36 → ¬ y = 0) (hb : c = 12 ∨ c = 13 → (x = 0 ∨ x = 1) ∧ (y = 0 ∨ y = 1)) : ∃ z, f5_joined c x y σ = some (z, σ) ∧ f12_twoOf o x y τ = some (z, τ) ∧ (c = 12 ∨ c = 13 ∨ 39 ≤ c → z = 0 ∨ z = 1) ∧ c < 64 ∧ 7 < c ∧ ¬ o = 0 ∧ ¬ o = 1 ∧ ¬ o = 9 := by
  rcases h with ⟨v, hv, rfl, -, -⟩ | ⟨k, hk, rfl, -, -⟩ | ⟨rfl, rfl⟩ | ⟨rfl, rfl⟩ | ⟨rfl, rfl⟩ | ⟨rfl, rfl⟩ | ⟨rfl, rfl⟩ | ⟨rfl, rfl⟩ | ⟨rfl, rfl⟩ | ⟨rfl, rfl⟩ | ⟨rfl, rfl⟩ | ⟨rfl, rfl⟩
  · exact absurd (.inl (nI_le (a := 64) (by omega) (by omega))) hn
  · exact absurd (.inr (nI_le (b := 7) (by omega) (by omega))) hn
  · exact ⟨x + y, rfl, rfl, fun q => absurd q (by decide), by decide, by decide, by decide, by decide, by decide⟩
  · exact ⟨x - y, rfl, rfl, fun q => absurd q (by decide), by decide, by decide, by decide, by decide, by decide⟩
  · exact ⟨x * y, rfl, rfl, fun q => absurd q (by decide), by decide, by decide, by decide, by decide, by decide⟩
  · have hy := h36 rfl
    refine ⟨x / y, ?_, ?_, fun q => absurd q (by decide), by decide, by decide, by decide, by decide, by decide⟩
    · unfold f5_joined
      rw [if_neg (by decide), if_neg (by decide), if_neg (by decide), if_neg (by decide), if_pos rfl, if_neg hy, q_chk _ (by simp [hy])]
    · unfold f12_twoOf
      rw [if_neg (by decide), if_neg (by decide), if_neg (by decide), if_pos rfl, q_chk _ (by simp [hy])]
  · refine ⟨if x < y then 1 else 0, ?_, ?_, fun _ => ?_, by decide, by decide, by decide, by decide, by decide⟩
    · unfold f5_joined
      rw [if_neg (by decide), if_neg (by decide), if_neg (by decide), if_neg (by decide), if_neg (by decide), if_pos rfl]
      split <;> rfl
    · unfold f12_twoOf
      rw [if_neg (by decide), if_neg (by decide), if_neg (by decide), if_neg (by decide), if_pos rfl]
      split <;> rfl
    · split
      · exact .inr rfl
      · exact .inl rfl
  · refine ⟨if x = y then 1 else 0, ?_, ?_, fun _ => ?_, by decide, by decide, by decide, by decide, by decide⟩
    · unfold f5_joined
      rw [if_neg (by decide), if_neg (by decide), if_neg (by decide), if_neg (by decide), if_neg (by decide), if_neg (by decide), if_pos rfl]
      split <;> rfl
    · unfold f12_twoOf
      rw [if_neg (by decide), if_neg (by decide), if_neg (by decide), if_neg (by decide), if_neg (by decide), if_pos rfl]
      split <;> rfl
    · split
      · exact .inr rfl
      · exact .inl rfl
  · refine ⟨if y < x then 1 else 0, ?_, ?_, fun _ => ?_, by decide, by decide, by decide, by decide, by decide⟩
    · unfold f5_joined
      rw [if_neg (by decide), if_neg (by decide), if_neg (by decide), if_neg (by decide), if_neg (by decide), if_neg (by decide), if_neg (by decide), if_pos rfl]
      split <;> rfl
    · unfold f12_twoOf
      rw [if_neg (by decide), if_neg (by decide), if_neg (by decide), if_neg (by decide), if_neg (by decide), if_neg (by decide), if_pos rfl]
      split <;> rfl
    · split
      · exact .inr rfl
      · exact .inl rfl
  · exact absurd rfl h14
  · obtain ⟨hx, hy⟩ := hb (.inr rfl)
    refine ⟨x &&& y, rfl, ?_, fun _ => ?_, by decide, by decide, by decide, by decide, by decide⟩
    · rcases hx with rfl | rfl <;> rcases hy with rfl | rfl <;> rfl
    · rcases hx with rfl | rfl <;> rcases hy with rfl | rfl <;> decide
  · obtain ⟨hx, hy⟩ := hb (.inl rfl)
    refine ⟨x ||| y, rfl, ?_, fun _ => ?_, by decide, by decide, by decide, by decide, by decide⟩
    · rcases hx with rfl | rfl <;> rcases hy with rfl | rfl <;> rfl
    · rcases hx with rfl | rfl <;> rcases hy with rfl | rfl <;> decide
theorem e_step {K t i : Nat} {σ τ : z_M} {s s' : List Bool} (hL : LC K σ τ) (hi : i < t) (ht : t ≤ K) (hd : C_dep (σ 9 i) s = some s') (hs : SV s (σ 49) (τ 21)) (hlen : s.length ≤ 30) (h36 : σ 9 i = 36 → ¬ σ 49 (s.length - 1) = 0) (n m : Nat) : ∃ σ' τ', f5_worthOf_L6 (n + 1) 7 (nI t) (nI s.length) (nI i) σ = f5_worthOf_L6 n 7 (nI t) (nI s'.length) (nI (i + 1)) σ' ∧ f12_runs_L12 (m + 1) 1 (nI t) (nI s.length) (nI (400 + i)) τ = f12_runs_L12 m 1 (nI t) (nI s'.length) (nI (400 + (i + 1))) τ' ∧ SV s' (σ' 49) (τ' 21) ∧ s'.length ≤ 30 ∧ (∀ c, c ≠ 49 → σ' c = σ c) ∧ (∀ c, c ≠ 21 → τ' c = τ c) ∧ ∀ v, v ≤ 9999 → σ 9 i = nI (64 + v) → σ' 49 (s'.length - 1) = nI v := by
  have hK := hL.1
  have hrel := hL.2.2.1 i (by omega)
  by_cases hpush : 64 ≤ σ 9 i ∨ σ 9 i ≤ 7
  · have hd2 : s.length < 30 ∧ s' = false :: s := by
      unfold C_dep at hd
      rw [if_pos hpush] at hd
      split at hd
      · rename_i q; exact ⟨q, (Option.some.inj hd).symm⟩
      · exact absurd hd (by simp)
    obtain ⟨hl, rfl⟩ := hd2
    obtain ⟨v, a1, a2, a3⟩ : ∃ v, ((¬ σ 9 i < 64 ∧ v = σ 9 i - 64) ∨ ∃ k, k < 8 ∧ σ 9 i = nI k ∧ v = σ 48 k) ∧ ((τ 14 (400 + i) = 0 ∧ v = τ 15 (400 + i)) ∨ ∃ k, k < 8 ∧ τ 14 (400 + i) = 1 ∧ τ 15 (400 + i) = nI k ∧ v = τ 20 k) ∧ ∀ w, w ≤ 9999 → σ 9 i = nI (64 + w) → v = nI w := by
      rcases hrel with ⟨v, hv, e1, e2, e3⟩ | ⟨k, hk, e1, e2, e3⟩ | ⟨e1, -⟩ | ⟨e1, -⟩ | ⟨e1, -⟩ | ⟨e1, -⟩ | ⟨e1, -⟩ | ⟨e1, -⟩ | ⟨e1, -⟩ | ⟨e1, -⟩ | ⟨e1, -⟩ | ⟨e1, -⟩
      · refine ⟨nI v, .inl ⟨by rw [e1]; exact nI_nlt (b := 64) (by omega) (by omega), ?_⟩, .inl ⟨e2, e3.symm⟩, fun w hw ew => ?_⟩
        · rw [e1, l_64, pk_sub (by omega), Nat.add_sub_cancel_left]
        · rw [e1, nI_eq (by omega) (by omega)] at ew
          rw [show v = w by omega]
      · refine ⟨σ 48 k, .inr ⟨k, hk, e1, rfl⟩, .inr ⟨k, hk, e2, e3, hL.2.2.2 k hk⟩, fun w hw ew => ?_⟩
        rw [e1, nI_eq (by omega) (by omega)] at ew
        omega
      all_goals (rw [e1] at hpush; exact absurd hpush (by decide))
    refine ⟨z_set σ 49 s.length v, z_set τ 21 s.length v, w_push hL hi ht (by omega) a1, m_push hi (by omega) (by omega) a2, ⟨?_, fun q => absurd q (by decide), SV_cong hs (fun j hj => ⟨s_kn (by omega), s_kn (by omega)⟩)⟩, by simp; omega, fun c hc => s_ne hc, fun c hc => s_ne hc, fun w hw ew => ?_⟩
    · rw [s_eq, s_eq]
    · show z_set σ 49 s.length v 49 s.length = _
      rw [s_eq]; exact a3 w hw ew
  · have nonum : ∀ w, w ≤ 9999 → σ 9 i = nI (64 + w) → False := fun w hw ew => hpush (.inl (by rw [ew]; exact nI_le (a := 64) (by omega) (by omega)))
    unfold C_dep at hd
    rw [if_neg hpush] at hd
    match s, hs, hlen, h36, hd with
    | [], _, _, _, hd => exact absurd hd (by simp)
    | x :: s1, hs, hlen, h36, hd =>
      obtain ⟨q1, q2, q3⟩ := hs
      have hlen : s1.length + 1 ≤ 30 := hlen
      by_cases h14 : σ 9 i = 14
      · simp only [h14, if_true] at hd
        split at hd
        · rename_i hx
          obtain rfl := Option.some.inj hd
          have o9 : τ 14 (400 + i) = 9 := by
            rcases hrel with ⟨v, hv, e1, e2, e3⟩ | ⟨k, hk, e1, e2, e3⟩ | ⟨e1, -⟩ | ⟨e1, -⟩ | ⟨e1, -⟩ | ⟨e1, -⟩ | ⟨e1, -⟩ | ⟨e1, -⟩ | ⟨e1, -⟩ | ⟨e1, e2⟩ | ⟨e1, -⟩ | ⟨e1, -⟩
            · exact (nonum v hv e1).elim
            · rw [h14] at e1
              have e1 : nI 14 = nI k := e1
              rw [nI_eq (by omega) (by omega)] at e1
              omega
            all_goals first
              | exact e2
              | (rw [h14] at e1; exact absurd e1 (by decide))
          refine ⟨_, _, w_not hL hi ht (by omega) h14, m_not hi (by omega) (by omega) o9, ⟨?_, fun _ => ?_, SV_cong q3 (fun j hj => ⟨s_kn (by omega), s_kn (by omega)⟩)⟩, hlen, fun c hc => s_ne hc, fun c hc => s_ne hc, fun w hw ew => (nonum w hw ew).elim⟩
          · rw [s_eq, s_eq, q1]
          · rw [s_eq]
            rcases q2 hx with q | q
            · rw [q]; exact .inr rfl
            · rw [q]; exact .inl rfl
        · exact absurd hd (by simp)
      · simp only [h14, if_false] at hd
        match s1, q1, q2, q3, hlen, h36, hd with
        | [], _, _, _, _, _, hd => exact absurd hd (by simp)
        | y :: s2, q1, q2, q3, hlen, h36, hd =>
          obtain ⟨r1, r2, r3⟩ := q3
          have hlen : s2.length + 2 ≤ 30 := hlen
          have q1 : σ 49 (s2.length + 1) = τ 21 (s2.length + 1) := q1
          have q2 : x = true → σ 49 (s2.length + 1) = 0 ∨ σ 49 (s2.length + 1) = 1 := q2
          have h36 : σ 9 i = 36 → ¬ σ 49 (s2.length + 1) = 0 := h36
          have hb : σ 9 i = 12 ∨ σ 9 i = 13 → x = true ∧ y = true := by
            intro q
            simp only [q, if_true] at hd
            split at hd
            · assumption
            · exact absurd hd (by simp)
          obtain ⟨z, z1, z2, z3, z4, z5, z6, z7, z8⟩ := j_rel (x := σ 49 s2.length) (y := σ 49 (s2.length + 1)) σ τ hrel hpush h14 h36 (fun q => ⟨r2 (hb q).2, q2 (hb q).1⟩)
          have hs' : ∃ b, s' = b :: s2 ∧ (b = true → z = 0 ∨ z = 1) := by
            by_cases q : σ 9 i = 12 ∨ σ 9 i = 13
            · simp only [q, if_true] at hd
              split at hd
              · exact ⟨true, (Option.some.inj hd).symm, fun _ => z3 (by rcases q with q | q; exact .inl q; exact .inr (.inl q))⟩
              · exact absurd hd (by simp)
            · simp only [q, if_false] at hd
              split at hd
              · rename_i q2; exact ⟨true, (Option.some.inj hd).symm, fun _ => z3 (.inr (.inr q2))⟩
              · exact ⟨false, (Option.some.inj hd).symm, fun q => absurd q (by decide)⟩
          obtain ⟨b, rfl, hbz⟩ := hs'
          refine ⟨_, _, w_bin hL hi ht (by omega) z4 z5 h14 z1, m_bin hi (by omega) (by omega) z6 z7 z8 (by rw [← r1, ← q1]; exact z2), ⟨?_, fun q => ?_, SV_cong r3 (fun j hj => ⟨s_kn (by omega), s_kn (by omega)⟩)⟩, by simp; omega, fun c hc => s_ne hc, fun c hc => s_ne hc, fun w hw ew => (nonum w hw ew).elim⟩
          · rw [s_eq, s_eq]
          · rw [s_eq]; exact hbz q
/-- codes run, on both sides -/
theorem e_run {K f t : Nat} {b : Bool} {σ0 τ0 : z_M} (hL : LC K σ0 τ0) (hft : f ≤ t) (ht : t ≤ K) (hp : ∀ i, f ≤ i → i < t → σ0 9 i = 36 → f < i ∧ ∃ v, 1 ≤ v ∧ v ≤ 9999 ∧ σ0 9 (i - 1) = nI (64 + v)) : ∀ (r i n m : Nat) (s : List Bool) (σ τ : z_M), i + r = t → f ≤ i → r < n → r < m → C_run (σ0 9) r i s = some [b] → SV s (σ 49) (τ 21) → s.length ≤ 30 → (∀ c, c ≠ 49 → σ c = σ0 c) → (∀ c, c ≠ 21 → τ c = τ0 c) → (∀ v, f < i → v ≤ 9999 → σ0 9 (i - 1) = nI (64 + v) → σ 49 (s.length - 1) = nI v) → ∃ x σ' τ', f5_worthOf_L6 n 7 (nI t) (nI s.length) (nI i) σ = some (x, σ') ∧ f12_runs_L12 m 1 (nI t) (nI s.length) (nI (400 + i)) τ = some (x, τ') ∧ (∀ c, c ≠ 49 → σ' c = σ0 c) ∧ ∀ c, c ≠ 21 → τ' c = τ0 c
  | 0, i, n, m, s, σ, τ, h1, h2, h3, h4, hr, hs, hlen, e1, e2, hlast => by
    obtain ⟨n, rfl⟩ : ∃ m, n = m + 1 := ⟨n - 1, by omega⟩
    obtain ⟨m, rfl⟩ : ∃ n, m = n + 1 := ⟨m - 1, by omega⟩
    have hK := hL.1
    have hs1 : s = [b] := Option.some.inj hr
    subst hs1
    refine ⟨σ 49 0, σ, τ, ?_, ?_, e1, e2⟩
    · unfold f5_worthOf_L6 f5_worthOf_J169
      rw [if_neg (nI_nlt (by omega) (by omega)), q_chk _ (by decide)]; rfl
    · unfold f12_runs_L12 f12_runs_J176
      rw [m_hd (by omega), if_neg (nI_nlt (by omega) (by omega)), q_chk _ (by decide)]
      have := hs.1
      have : σ 49 0 = τ 21 0 := this
      rw [this]; rfl
  | r + 1, i, n, m, s, σ, τ, h1, h2, h3, h4, hr, hs, hlen, e1, e2, hlast => by
    obtain ⟨n, rfl⟩ : ∃ m, n = m + 1 := ⟨n - 1, by omega⟩
    obtain ⟨m, rfl⟩ : ∃ n, m = n + 1 := ⟨m - 1, by omega⟩
    have hL' : LC K σ τ := LC_cong hL e1 e2
    have e9 : σ 9 = σ0 9 := e1 9 (by omega)
    unfold C_run at hr
    cases hd : C_dep (σ0 9 i) s with
    | none => rw [hd] at hr; exact absurd hr (by simp)
    | some s' =>
      rw [hd] at hr
      obtain ⟨σ1, τ1, k1, k2, k3, k4, k5, k6, k7⟩ := e_step hL' (show i < t by omega) ht (by rw [e9]; exact hd) hs hlen (by
        intro q
        rw [e9] at q
        obtain ⟨a, v, b1, b2, b3⟩ := hp i h2 (by omega) q
        rw [hlast v a b2 b3]
        exact nI_ne0 (by omega) (by omega)) n m
      obtain ⟨x, σ', τ', a1, a2, a3, a4⟩ := e_run hL hft ht hp r (i + 1) n m s' σ1 τ1 (by omega) (by omega) (by omega) (by omega) hr k3 k4 (fun c hc => (k5 c hc).trans (e1 c hc)) (fun c hc => (k6 c hc).trans (e2 c hc)) (fun v _ hv ev => k7 v hv (by rw [e9]; exact ev))
      exact ⟨x, σ', τ', k1.trans a1, k2.trans a2, a3, a4⟩
theorem e_worth {K f t : Nat} {σ τ : z_M} (hL : LC K σ τ) (ht : t ≤ K) (ho : C_ok (σ 9) f t) : ∃ x σ' τ', f5_worthOf 7 (nI f) (nI t) σ = some (x, σ') ∧ f12_runs 1 (nI f) (nI t) τ = some (x, τ') ∧ (∀ c, c ≠ 49 → σ' c = σ c) ∧ ∀ c, c ≠ 21 → τ' c = τ c := by
  obtain ⟨hft, ⟨b, hr⟩, hp⟩ := ho
  have hK := hL.1
  obtain ⟨x, σ', τ', a1, a2, a3, a4⟩ := e_run hL hft ht hp (t - f) f z_fu z_fu [] σ τ (by omega) (by omega) (show t - f < 1000 by omega) (show t - f < 1000 by omega) hr trivial (by simp) (fun _ _ => rfl) (fun _ _ => rfl) (fun v q => absurd q (by omega))
  refine ⟨x, σ', τ', a1, ?_, a3, a4⟩
  unfold f12_runs
  rw [m_hd (by omega)]
  exact a2
