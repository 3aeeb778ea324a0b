/-! THE IMAGE -/
/-- a garden copied, and the reference's arrays with it -/
theorem G_all_cong {H g g' : Nat} {σ σ' : z_M} {row sc sto lin tH tT tW rea wor pla boo row' sc' sto' lin' tH' tT' tW' rea' wor' pla' boo' : Nat → Int32} {lm lm' : Int32} {lW lF lN lT op ar lW' lF' lN' lT' op' ar' : Nat → Int32} (h : G_all H σ g row sc sto lin tH tT tW rea wor pla boo lm lW lF lN lT op ar) (c0 : ∀ k, k < 4 ∨ k = 11 → σ' g' k = σ g k) (c1 : ∀ k, k < 8 → σ' (g' + 1) k = σ (g + 1) k) (c2 : ∀ k, k < 8 → σ' (g' + 2) k = σ (g + 2) k) (c3 : σ' (g' + 3) 2 = σ (g + 3) 2) (c4 : ∀ n k, σ (g + 3) 2 = nI n → n ≤ 16 → k < 5 * n → σ' (g' + 4) k = σ (g + 4) k) (c6 : σ' (g' + 6) 2 = σ (g + 6) 2 ∧ σ' (g' + 6) 3 = σ (g + 6) 3) (c7 : ∀ n k, σ (g + 6) 2 = nI n → n ≤ 16 → k < 5 * n → σ' (g' + 7) k = σ (g + 7) k) (c8 : ∀ n k, σ (g + 6) 3 = nI n → n ≤ 400 → k < n → σ' (g' + 8) k = σ (g + 8) k) (c9 : σ' (g' + 9) 2 = σ (g + 9) 2) (c10 : ∀ n k, σ (g + 9) 2 = nI n → n ≤ 12 → k < 5 * n → σ' (g' + 10) k = σ (g + 10) k) (c12 : σ' (g' + 12) 2 = σ (g + 12) 2) (c13 : ∀ n k, σ (g + 12) 2 = nI n → n ≤ 16 → k < 5 * n → σ' (g' + 13) k = σ (g + 13) k) (c15 : ∀ k, k < 36 → σ' (g' + 15) k = σ (g + 15) k) (c16 : ∀ k, k < 600 → σ' (g' + 16) k = σ (g + 16) k) (cb : B_cp (g' + 17) (g + 17) σ σ') (m0 : ∀ k, k < 100 → row' k = row k) (m1 : ∀ k, k < 8 → sc' k = sc k) (m2 : ∀ k, k < 8 → sto' k = sto k) (m3 : ∀ k, k < 8 → lin' k = lin k) (m4 : ∀ k, k < 12 → tH' k = tH k ∧ tT' k = tT k ∧ tW' k = tW k) (m5 : ∀ k, k < 48 → rea' k = rea k) (m6 : ∀ k, k < 36 → wor' k = wor k) (m7 : ∀ k, k < 80 → pla' k = pla k) (m8 : ∀ k, k < 600 → boo' k = boo k) (m9 : lm' = lm) (m10 : ∀ k, k < 16 → lW' k = lW k ∧ lF' k = lF k ∧ lN' k = lN k ∧ lT' k = lT k) (m11 : ∀ k, k < 400 → op' k = op k ∧ ar' k = ar k) : G_all H σ' g' row' sc' sto' lin' tH' tT' tW' rea' wor' pla' boo' lm' lW' lF' lN' lT' op' ar' := by
  obtain ⟨g1, g2, g3, g4, g5, g6, g7, g8, g9, g10⟩ := h
  refine ⟨?_, fun i hi => ?_, fun i hi => ?_, ?_, ?_, ?_, ?_, ?_, fun k hk => ?_, ?_⟩
  · rw [c0 0 (by omega), c0 1 (by omega), c0 2 (by omega), c0 3 (by omega), m1 0 (by omega), m1 1 (by omega), m1 2 (by omega), m1 3 (by omega)]; exact g1
  · rw [c1 i hi, m2 i hi]; exact g2 i hi
  · rw [c2 i hi, m3 i hi]; exact g3 i hi
  · obtain ⟨n, hn, e1, e2, hl⟩ := g4
    refine ⟨n, hn, by rw [c3]; exact e1, by rw [m1 4 (by omega)]; exact e2, fun i hi => ?_⟩
    rw [c4 n (5 * i) e1 hn (by omega), c4 n (5 * i + 1) e1 hn (by omega), c4 n (5 * i + 2) e1 hn (by omega), m5 (3 * i) (by omega), m5 (3 * i + 1) (by omega), m5 (3 * i + 2) (by omega)]
    exact hl i hi
  · obtain ⟨n, k, hn, hk, e1, e2, e3, hc, hl⟩ := g5
    refine ⟨n, k, hn, hk, by rw [c6.1]; exact e1, by rw [m9]; exact e2, by rw [c6.2]; exact e3, fun i hi => ?_, fun i hi => ?_⟩
    · rw [c8 k i e3 hk hi, (m11 i (by omega)).1, (m11 i (by omega)).2]; exact hc i hi
    · rw [c7 n (5 * i) e1 hn (by omega), c7 n (5 * i + 1) e1 hn (by omega), c7 n (5 * i + 2) e1 hn (by omega), c7 n (5 * i + 3) e1 hn (by omega), (m10 i (by omega)).1, (m10 i (by omega)).2.1, (m10 i (by omega)).2.2.1, (m10 i (by omega)).2.2.2]
      obtain ⟨⟨f, t, e, q1, q2, q3, q4, q5, q6, q7, q8, q9⟩, q10⟩ := hl i hi
      have ok : ∀ f t, t ≤ k → C_ok (σ (g + 8)) f t → C_ok (σ' (g' + 8)) f t := by
        intro f t ht ho
        obtain ⟨o1, ⟨b, o2⟩, o3⟩ := ho
        have run : ∀ r i s, i + r ≤ k → C_run (σ' (g' + 8)) r i s = C_run (σ (g + 8)) r i s := by
          intro r
          induction r with
          | zero => intro i s _; rfl
          | succ r ih =>
            intro i s hi
            unfold C_run
            rw [c8 k i e3 hk (by omega)]
            congr 1
            funext s'
            exact ih (i + 1) s' (by omega)
        refine ⟨o1, ⟨b, by rw [run _ _ _ (by omega)]; exact o2⟩, fun i a1 a2 a3 => ?_⟩
        rw [c8 k i e3 hk (by omega)] at a3
        obtain ⟨b1, b2⟩ := o3 i a1 a2 a3
        refine ⟨b1, ?_⟩
        rw [c8 k (i - 1) e3 hk (by omega)]; exact b2
      refine ⟨⟨f, t, e, q1, q2, q3, q4, q5, q6, q7, ok f t ?_ q8, q9.imp id (ok t e q7)⟩, q10⟩
      rcases q9 with q | q
      · omega
      · have := q.1; omega
  · obtain ⟨n, hn, e1, e2, hl⟩ := g6
    refine ⟨n, hn, by rw [c9]; exact e1, by rw [m1 5 (by omega)]; exact e2, fun i hi => ?_⟩
    rw [c10 n (5 * i) e1 hn (by omega), c10 n (5 * i + 1) e1 hn (by omega), c10 n (5 * i + 2) e1 hn (by omega), m6 (3 * i) (by omega), m6 (3 * i + 1) (by omega), m6 (3 * i + 2) (by omega)]
    exact hl i hi
  · obtain ⟨n, hn, e1, e2, hl⟩ := g7
    refine ⟨n, hn, by rw [c12]; exact e1, by rw [m1 6 (by omega)]; exact e2, fun i hi => ?_⟩
    rw [c13 n (5 * i) e1 hn (by omega), c13 n (5 * i + 1) e1 hn (by omega), c13 n (5 * i + 2) e1 hn (by omega), c13 n (5 * i + 3) e1 hn (by omega), c13 n (5 * i + 4) e1 hn (by omega), m7 (5 * i) (by omega), m7 (5 * i + 1) (by omega), m7 (5 * i + 2) (by omega), m7 (5 * i + 3) (by omega), m7 (5 * i + 4) (by omega)]
    exact hl i hi
  · obtain ⟨n, hn, e1, e2, hl⟩ := g8
    refine ⟨n, hn, by rw [c0 11 (by omega)]; exact e1, by rw [m1 7 (by omega)]; exact e2, fun i hi => ?_⟩
    rw [c15 (3 * i) (by omega), c15 (3 * i + 1) (by omega), c15 (3 * i + 2) (by omega), (m4 i (by omega)).1, (m4 i (by omega)).2.1, (m4 i (by omega)).2.2]
    exact hl i hi
  · rw [c16 k hk, m8 k hk]; exact g9 k hk
  · exact G_be_cong g10 cb.1 cb.2.1 cb.2.2 m0
/-- a text copied -/
theorem e9_copy {a b A B C D n k : Nat} {σ : z_M} (hab : a + 2 < b ∨ b + 2 < a) (e1 : S1.2.1 (a + 1) = A) (e2 : S1.2.1 (b + 1) = B) (e3 : S1.2.1 (a + 2) = C) (e4 : S1.2.1 (b + 2) = D) (hn : σ b 2 = nI n) (hk : σ b 3 = nI k) (n1 : 5 * n ≤ A) (n2 : 5 * n ≤ B) (k1 : k ≤ C) (k2 : k ≤ D) (hA : A < 1000) (hC : C < 1000) : ∃ σ', f9_copyFrom a b σ = some ((), σ') ∧ (∀ x, x < a ∨ a + 2 < x → σ' x = σ x) ∧ σ' a 2 = nI n ∧ σ' a 3 = nI k ∧ (∀ i, i ≠ 2 → i ≠ 3 → σ' a i = σ a i) ∧ (∀ i, i < 5 * n → σ' (a + 1) i = σ (b + 1) i) ∧ (∀ i, i < k → σ' (a + 2) i = σ (b + 2) i) := by
  have m1 : z_min (Int32.ofNat A) (nI (5 * n)) = nI (5 * n) := by
    have := s_min (a := A) (b := 5 * n) (by omega) (by omega)
    rw [Nat.min_eq_right n1] at this; exact this
  have m2 : z_min (Int32.ofNat C) (nI k) = nI k := by
    have := s_min (a := C) (b := k) (by omega) (by omega)
    rw [Nat.min_eq_right k1] at this; exact this
  have ok1 : z_cok B 0 A 0 (nI (5 * n)) = true := by
    unfold z_cok
    rw [nI_clamp (by omega), show (0 : Int32).toNatClampNeg = 0 from rfl]
    simp [nI_pos (show 5 * n < 2 ^ 31 by omega), n1, n2]
  have ok2 : z_cok D 0 C 0 (nI k) = true := by
    unfold z_cok
    rw [nI_clamp (by omega), show (0 : Int32).toNatClampNeg = 0 from rfl]
    simp [nI_pos (show k < 2 ^ 31 by omega), k1, k2]
  have i5 : nI n * 5 = nI (5 * n) := by rw [l_5, pk_mul, Nat.mul_comm]
  refine ⟨z_set (z_set (z_cpy (z_cpy σ (b + 1) 0 (a + 1) 0 (nI (5 * n))) (b + 2) 0 (a + 2) 0 (nI k)) a 2 (nI n)) a 3 (nI k), ?_, fun x hx => ?_, ?_, ?_, fun i h2 h3 => ?_, fun i hi => ?_, fun i hi => ?_⟩
  · unfold f9_copyFrom
    rw [e1, e2, e3, e4, hn, i5, m1, q_chk _ ok1, q_let, s_cn (show b ≠ a + 1 by omega), hk, m2, q_chk _ ok2, q_let, s_cn (show b ≠ a + 2 by omega), s_cn (show b ≠ a + 1 by omega), hn, q_let, s_ne (show b ≠ a by omega), s_cn (show b ≠ a + 2 by omega), s_cn (show b ≠ a + 1 by omega), hk, q_let]
  · simp (disch := omega) only [s_ne, s_cn]
  · rw [s_kn (by omega), s_eq]
  · exact s_eq
  · rw [s_kn h3, s_kn h2]
    simp (disch := omega) only [s_cn]
  · simp (disch := omega) only [s_ne, s_cn, s_ci]
  · rw [s_ne (by omega), s_ne (by omega), s_ci hi (by omega), s_cn (by omega)]
/-- a garden of the class copied -/
theorem e1_copy {g' g : Nat} {σ : z_M} (hg : (g' = 24 ∧ g = 1) ∨ (g' = 1 ∧ g = 24)) (n3 n6 k6 n9 n12 : Nat) (h3 : σ (g + 3) 2 = nI n3) (h3' : σ (g + 3) 3 = 0) (h6 : σ (g + 6) 2 = nI n6) (h6' : σ (g + 6) 3 = nI k6) (h9 : σ (g + 9) 2 = nI n9) (h9' : σ (g + 9) 3 = 0) (h12 : σ (g + 12) 2 = nI n12) (h12' : σ (g + 12) 3 = 0) (b3 : n3 ≤ 16) (b6 : n6 ≤ 16) (b6' : k6 ≤ 400) (b9 : n9 ≤ 12) (b12 : n12 ≤ 16) : ∃ σ', f1_copyFrom g' g σ = some ((), σ') ∧ (∀ x, x < g' ∨ g' + 22 < x → σ' x = σ x) ∧ (∀ k, k < 4 ∨ k = 11 → σ' g' k = σ g k) ∧ (∀ k, k < 8 → σ' (g' + 1) k = σ (g + 1) k) ∧ (∀ k, k < 8 → σ' (g' + 2) k = σ (g + 2) k) ∧ σ' (g' + 3) 2 = nI n3 ∧ σ' (g' + 3) 3 = 0 ∧ (∀ k, k < 5 * n3 → σ' (g' + 4) k = σ (g + 4) k) ∧ σ' (g' + 6) 2 = nI n6 ∧ σ' (g' + 6) 3 = nI k6 ∧ (∀ k, k < 5 * n6 → σ' (g' + 7) k = σ (g + 7) k) ∧ (∀ k, k < k6 → σ' (g' + 8) k = σ (g + 8) k) ∧ σ' (g' + 9) 2 = nI n9 ∧ σ' (g' + 9) 3 = 0 ∧ (∀ k, k < 5 * n9 → σ' (g' + 10) k = σ (g + 10) k) ∧ σ' (g' + 12) 2 = nI n12 ∧ σ' (g' + 12) 3 = 0 ∧ (∀ k, k < 5 * n12 → σ' (g' + 13) k = σ (g + 13) k) ∧ (∀ k, k < 36 → σ' (g' + 15) k = σ (g + 15) k) ∧ (∀ k, k < 600 → σ' (g' + 16) k = σ (g + 16) k) ∧ B_cp (g' + 17) (g + 17) σ σ' := by
  have hd : g' + 22 < g ∨ g + 22 < g' := by omega
  let σa := z_cpy (z_cpy (z_cpy (z_cpy (z_set (z_set (z_set (z_set (z_set σ g' 0 (σ g 0)) g' 1 (σ g 1)) g' 2 (σ g 2)) g' 3 (σ g 3)) g' 11 (σ g 11)) (g + 1) 0 (g' + 1) 0 8) (g + 2) 0 (g' + 2) 0 8) (g + 15) 0 (g' + 15) 0 36) (g + 16) 0 (g' + 16) 0 600
  have fa : ∀ x, x < g' ∨ g' + 22 < x → σa x = σ x := fun x hx => by
    show z_cpy (z_cpy (z_cpy (z_cpy (z_set (z_set (z_set (z_set (z_set σ g' 0 (σ g 0)) g' 1 (σ g 1)) g' 2 (σ g 2)) g' 3 (σ g 3)) g' 11 (σ g 11)) (g + 1) 0 (g' + 1) 0 8) (g + 2) 0 (g' + 2) 0 8) (g + 15) 0 (g' + 15) 0 36) (g + 16) 0 (g' + 16) 0 600 x = _
    simp (disch := omega) only [s_ne, s_cn]
  have a0 : ∀ k, k < 4 ∨ k = 11 → σa g' k = σ g k := fun k hk => by
    show z_cpy (z_cpy (z_cpy (z_cpy (z_set (z_set (z_set (z_set (z_set σ g' 0 (σ g 0)) g' 1 (σ g 1)) g' 2 (σ g 2)) g' 3 (σ g 3)) g' 11 (σ g 11)) (g + 1) 0 (g' + 1) 0 8) (g + 2) 0 (g' + 2) 0 8) (g + 15) 0 (g' + 15) 0 36) (g + 16) 0 (g' + 16) 0 600 g' k = _
    simp (disch := omega) only [s_cn]
    rcases (show k = 0 ∨ k = 1 ∨ k = 2 ∨ k = 3 ∨ k = 11 by omega) with rfl | rfl | rfl | rfl | rfl <;> simp (disch := omega) only [s_eq, s_kn]
  have a1 : ∀ k, k < 8 → σa (g' + 1) k = σ (g + 1) k := fun k hk => by
    show z_cpy (z_cpy (z_cpy (z_cpy (z_set (z_set (z_set (z_set (z_set σ g' 0 (σ g 0)) g' 1 (σ g 1)) g' 2 (σ g 2)) g' 3 (σ g 3)) g' 11 (σ g 11)) (g + 1) 0 (g' + 1) 0 (nI 8)) (g + 2) 0 (g' + 2) 0 8) (g + 15) 0 (g' + 15) 0 36) (g + 16) 0 (g' + 16) 0 600 (g' + 1) k = _
    simp (disch := omega) only [s_cn, s_ci, s_ne]
  have a2 : ∀ k, k < 8 → σa (g' + 2) k = σ (g + 2) k := fun k hk => by
    show z_cpy (z_cpy (z_cpy (z_cpy (z_set (z_set (z_set (z_set (z_set σ g' 0 (σ g 0)) g' 1 (σ g 1)) g' 2 (σ g 2)) g' 3 (σ g 3)) g' 11 (σ g 11)) (g + 1) 0 (g' + 1) 0 (nI 8)) (g + 2) 0 (g' + 2) 0 (nI 8)) (g + 15) 0 (g' + 15) 0 36) (g + 16) 0 (g' + 16) 0 600 (g' + 2) k = _
    simp (disch := omega) only [s_cn, s_ci, s_ne]
  have a15 : ∀ k, k < 36 → σa (g' + 15) k = σ (g + 15) k := fun k hk => by
    show z_cpy (z_cpy (z_cpy (z_cpy (z_set (z_set (z_set (z_set (z_set σ g' 0 (σ g 0)) g' 1 (σ g 1)) g' 2 (σ g 2)) g' 3 (σ g 3)) g' 11 (σ g 11)) (g + 1) 0 (g' + 1) 0 (nI 8)) (g + 2) 0 (g' + 2) 0 (nI 8)) (g + 15) 0 (g' + 15) 0 (nI 36)) (g + 16) 0 (g' + 16) 0 600 (g' + 15) k = _
    simp (disch := omega) only [s_cn, s_ci, s_ne]
  have a16 : ∀ k, k < 600 → σa (g' + 16) k = σ (g + 16) k := fun k hk => by
    show z_cpy (z_cpy (z_cpy (z_cpy (z_set (z_set (z_set (z_set (z_set σ g' 0 (σ g 0)) g' 1 (σ g 1)) g' 2 (σ g 2)) g' 3 (σ g 3)) g' 11 (σ g 11)) (g + 1) 0 (g' + 1) 0 (nI 8)) (g + 2) 0 (g' + 2) 0 (nI 8)) (g + 15) 0 (g' + 15) 0 (nI 36)) (g + 16) 0 (g' + 16) 0 (nI 600) (g' + 16) k = _
    simp (disch := omega) only [s_cn, s_ci, s_ne]
  have S : ∀ x, S1.2.1 x = S1.2.1 x := fun _ => rfl
  obtain ⟨σb, p1, p2, p3, p4, p5, p6, -⟩ := e9_copy (a := g' + 3) (b := g + 3) (A := 80) (B := 80) (C := 0) (D := 0) (n := n3) (k := 0) (σ := σa) (by omega) (by rcases hg with ⟨rfl, rfl⟩ | ⟨rfl, rfl⟩ <;> rfl) (by rcases hg with ⟨rfl, rfl⟩ | ⟨rfl, rfl⟩ <;> rfl) (by rcases hg with ⟨rfl, rfl⟩ | ⟨rfl, rfl⟩ <;> rfl) (by rcases hg with ⟨rfl, rfl⟩ | ⟨rfl, rfl⟩ <;> rfl) (by rw [fa _ (by omega)]; exact h3) (by rw [fa _ (by omega)]; exact h3') (by omega) (by omega) (by omega) (by omega) (by omega) (by omega)
  obtain ⟨σc, q1, q2, q3, q4, q5, q6, q7⟩ := e9_copy (a := g' + 6) (b := g + 6) (A := 80) (B := 80) (C := 400) (D := 400) (n := n6) (k := k6) (σ := σb) (by omega) (by rcases hg with ⟨rfl, rfl⟩ | ⟨rfl, rfl⟩ <;> rfl) (by rcases hg with ⟨rfl, rfl⟩ | ⟨rfl, rfl⟩ <;> rfl) (by rcases hg with ⟨rfl, rfl⟩ | ⟨rfl, rfl⟩ <;> rfl) (by rcases hg with ⟨rfl, rfl⟩ | ⟨rfl, rfl⟩ <;> rfl) (by rw [p2 _ (by omega), fa _ (by omega)]; exact h6) (by rw [p2 _ (by omega), fa _ (by omega)]; exact h6') (by omega) (by omega) (by omega) (by omega) (by omega) (by omega)
  obtain ⟨σd, r1, r2, r3, r4, r5, r6, -⟩ := e9_copy (a := g' + 9) (b := g + 9) (A := 60) (B := 60) (C := 0) (D := 0) (n := n9) (k := 0) (σ := σc) (by omega) (by rcases hg with ⟨rfl, rfl⟩ | ⟨rfl, rfl⟩ <;> rfl) (by rcases hg with ⟨rfl, rfl⟩ | ⟨rfl, rfl⟩ <;> rfl) (by rcases hg with ⟨rfl, rfl⟩ | ⟨rfl, rfl⟩ <;> rfl) (by rcases hg with ⟨rfl, rfl⟩ | ⟨rfl, rfl⟩ <;> rfl) (by rw [q2 _ (by omega), p2 _ (by omega), fa _ (by omega)]; exact h9) (by rw [q2 _ (by omega), p2 _ (by omega), fa _ (by omega)]; exact h9') (by omega) (by omega) (by omega) (by omega) (by omega) (by omega)
  obtain ⟨σe, s1, s2, s3, s4, s5, s6, -⟩ := e9_copy (a := g' + 12) (b := g + 12) (A := 80) (B := 80) (C := 0) (D := 0) (n := n12) (k := 0) (σ := σd) (by omega) (by rcases hg with ⟨rfl, rfl⟩ | ⟨rfl, rfl⟩ <;> rfl) (by rcases hg with ⟨rfl, rfl⟩ | ⟨rfl, rfl⟩ <;> rfl) (by rcases hg with ⟨rfl, rfl⟩ | ⟨rfl, rfl⟩ <;> rfl) (by rcases hg with ⟨rfl, rfl⟩ | ⟨rfl, rfl⟩ <;> rfl) (by rw [r2 _ (by omega), q2 _ (by omega), p2 _ (by omega), fa _ (by omega)]; exact h12) (by rw [r2 _ (by omega), q2 _ (by omega), p2 _ (by omega), fa _ (by omega)]; exact h12') (by omega) (by omega) (by omega) (by omega) (by omega) (by omega)
  obtain ⟨σf, t1, t2, t3⟩ := e0_copy (b := g' + 17) (c := g + 17) (by omega) σe
  have src : ∀ x, g ≤ x → x ≤ g + 22 → σe x = σ x := fun x h1 h2 => by
    rw [s2 x (by omega), r2 x (by omega), q2 x (by omega), p2 x (by omega), fa x (by omega)]
  refine ⟨σf, ?_, fun x hx => ?_, fun k hk => ?_, fun k hk => ?_, fun k hk => ?_, ?_, ?_, fun k hk => ?_, ?_, ?_, fun k hk => ?_, fun k hk => ?_, ?_, ?_, fun k hk => ?_, ?_, ?_, fun k hk => ?_, fun k hk => ?_, fun k hk => ?_, ?_⟩
  · unfold f1_copyFrom
    rw [q_let, q_let, q_let, q_let, q_let, q_chk _ (by decide), q_let, q_chk _ (by decide), q_let, q_chk _ (by decide), q_let, q_chk _ (by decide), q_let]
    simp (disch := omega) only [s_ne]
    show z_bnd (f9_copyFrom (g' + 3) (g + 3) σa) _ = _
    rw [p1, q_bnd, q1, q_bnd, r1, q_bnd, s1, q_bnd, t1, q_bnd]
  · rw [t2 x (by omega), s2 x (by omega), r2 x (by omega), q2 x (by omega), p2 x (by omega), fa x hx]
  · rw [t2 _ (by omega), s2 _ (by omega), r2 _ (by omega), q2 _ (by omega), p2 _ (by omega)]; exact a0 k hk
  · rw [t2 _ (by omega), s2 _ (by omega), r2 _ (by omega), q2 _ (by omega), p2 _ (by omega)]; exact a1 k hk
  · rw [t2 _ (by omega), s2 _ (by omega), r2 _ (by omega), q2 _ (by omega), p2 _ (by omega)]; exact a2 k hk
  · rw [t2 _ (by omega), s2 _ (by omega), r2 _ (by omega), q2 _ (by omega)]; exact p3
  · rw [t2 _ (by omega), s2 _ (by omega), r2 _ (by omega), q2 _ (by omega)]; exact p4
  · rw [t2 _ (by omega), s2 _ (by omega), r2 _ (by omega), q2 _ (by omega), show g' + 4 = g' + 3 + 1 by omega, p6 k hk, fa _ (by omega)]
  · rw [t2 _ (by omega), s2 _ (by omega), r2 _ (by omega)]; exact q3
  · rw [t2 _ (by omega), s2 _ (by omega), r2 _ (by omega)]; exact q4
  · rw [t2 _ (by omega), s2 _ (by omega), r2 _ (by omega), show g' + 7 = g' + 6 + 1 by omega, q6 k hk, p2 _ (by omega), fa _ (by omega)]
  · rw [t2 _ (by omega), s2 _ (by omega), r2 _ (by omega), show g' + 8 = g' + 6 + 2 by omega, q7 k hk, p2 _ (by omega), fa _ (by omega)]
  · rw [t2 _ (by omega), s2 _ (by omega)]; exact r3
  · rw [t2 _ (by omega), s2 _ (by omega)]; exact r4
  · rw [t2 _ (by omega), s2 _ (by omega), show g' + 10 = g' + 9 + 1 by omega, r6 k hk, q2 _ (by omega), p2 _ (by omega), fa _ (by omega)]
  · rw [t2 _ (by omega)]; exact s3
  · rw [t2 _ (by omega)]; exact s4
  · rw [t2 _ (by omega), show g' + 13 = g' + 12 + 1 by omega, s6 k hk, r2 _ (by omega), q2 _ (by omega), p2 _ (by omega), fa _ (by omega)]
  · rw [t2 _ (by omega), s2 _ (by omega), r2 _ (by omega), q2 _ (by omega), p2 _ (by omega)]; exact a15 k hk
  · rw [t2 _ (by omega), s2 _ (by omega), r2 _ (by omega), q2 _ (by omega), p2 _ (by omega)]; exact a16 k hk
  · refine ⟨fun k u v => ?_, fun k u => ?_, fun k u => ⟨?_, ?_, ?_, ?_⟩⟩
    · rw [t3.1 k u v, src _ (by omega) (by omega)]
    · rw [t3.2.1 k u, src _ (by omega) (by omega)]
    · rw [(t3.2.2 k u).1, src _ (by omega) (by omega)]
    · rw [(t3.2.2 k u).2.1, src _ (by omega) (by omega)]
    · rw [(t3.2.2 k u).2.2.1, src _ (by omega) (by omega)]
    · rw [(t3.2.2 k u).2.2.2, src _ (by omega) (by omega)]
/-- where the p-th number of THE IMAGE lies in the reference -/
def loc (p : Nat) : Nat × Nat :=
  if p < 100 then (1, p)
  else if p < 108 then (0, [6, 7, 8, 9, 36, 38, 40, 52].getD (p - 100) 0)
  else if p < 124 then (4 + (p - 108) % 2, (p - 108) / 2)
  else if p < 160 then (29 + (p - 124) % 3, (p - 124) / 3)
  else if p < 208 then (17, p - 160)
  else if p < 244 then (18, p - 208)
  else if p < 324 then (19, p - 244)
  else if p < 924 then (6, p - 324)
  else if p < 925 then (9, 1)
  else if p < 989 then (10 + (p - 925) % 4, 16 + (p - 925) / 4)
  else (14 + (p - 989) % 2, 400 + (p - 989) / 2)
/-- the p-th number is taken, or comes back -/
def stp (tk : Bool) (p : Nat) (τ : z_M) : z_M := if tk = true then z_set (z_set (z_set τ 0 59 (nI (p + 1))) 33 p (τ (loc p).1 (loc p).2)) (loc p).1 (loc p).2 (τ (loc p).1 (loc p).2) else z_set (z_set τ 0 59 (nI (p + 1))) (loc p).1 (loc p).2 (τ 33 p)
def stps (tk : Bool) (τ : z_M) : Nat → z_M
  | 0 => τ
  | p + 1 => stp tk p (stps tk τ p)
def pos (c k : Nat) : Nat := if c = 1 then k else if c = 0 then (if k = 36 then 104 else if k = 38 then 105 else if k = 40 then 106 else if k = 52 then 107 else 94 + k) else if c = 4 then 108 + 2 * k else if c = 5 then 109 + 2 * k else if c = 29 then 124 + 3 * k else if c = 30 then 125 + 3 * k else if c = 31 then 126 + 3 * k else if c = 17 then 160 + k else if c = 18 then 208 + k else if c = 19 then 244 + k else if c = 6 then 324 + k else if c = 9 then 924 else if c = 10 then 925 + 4 * (k - 16) else if c = 11 then 926 + 4 * (k - 16) else if c = 12 then 927 + 4 * (k - 16) else if c = 13 then 928 + 4 * (k - 16) else if c = 14 then 989 + 2 * (k - 400) else 990 + 2 * (k - 400)
set_option maxRecDepth 100000 in
theorem loc_ok : ∀ p, p < 1789 → pos (loc p).1 (loc p).2 = p ∧ (loc p).1 ≠ 33 ∧ (loc p).1 ≤ 31 ∧ ((loc p).1 = 0 → (loc p).2 ≠ 57 ∧ (loc p).2 ≠ 59) := by decide +kernel
