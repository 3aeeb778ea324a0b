/-! packs: the fewest houses for all pots, two ways (no memory in it) -/
def sb (q s : Nat) : Prop := ∀ i, q.testBit i = true → s.testBit i = true
theorem sb_lt {q s : Nat} (h : sb q s) (hs : s < 256) : q < 256 := by
  rcases Nat.lt_or_ge q 256 with h1 | h1
  · exact h1
  · exfalso
    obtain ⟨i, hi, hb⟩ := Nat.exists_ge_and_testBit_of_ge_two_pow (n := 8) (x := q) h1
    have := h i hb
    rw [t_hi hs hi] at this
    exact absurd this (by decide)
theorem sb_refl (s : Nat) : sb s s := fun _ h => h
theorem sb_trans {a b c : Nat} (h : sb a b) (g : sb b c) : sb a c := fun i hi => g i (h i hi)
theorem sb_dN {a b : Nat} (ha : a < 256) : sb (dN a b) a := fun i hi => by
  rw [t_dN ha] at hi
  cases h : a.testBit i
  · rw [h] at hi; simp at hi
  · rfl
theorem sb_prev : ∀ (n p q s : Nat), p < 2 ^ n → sb p s → sb q s → q < p → q ≤ (p - 1) &&& s
  | 0, p, q, s, hp, _, _, hq => by
    have : p < 1 := hp
    omega
  | n + 1, p, q, s, hp, hps, hqs, hq => by
    have hp2 : p < 2 ^ n * 2 := by rw [← Nat.pow_succ]; exact hp
    have h2 : ∀ {a : Nat}, sb a s → sb (a / 2) (s / 2) := fun h i hi => by
      rw [← Nat.testBit_succ] at hi ⊢
      exact h (i + 1) hi
    by_cases hm : p % 2 = 1
    · have he : (p - 1) &&& s = p - 1 := by
        apply Nat.eq_of_testBit_eq
        intro i
        rw [Nat.testBit_and]
        cases i with
        | zero =>
          have : (p - 1).testBit 0 = false := by rw [Nat.testBit_zero]; simp; omega
          rw [this]; rfl
        | succ i =>
          have e : (p - 1).testBit (i + 1) = p.testBit (i + 1) := by
            rw [Nat.testBit_succ, Nat.testBit_succ, show (p - 1) / 2 = p / 2 by omega]
          rw [e]
          cases h : p.testBit (i + 1)
          · rfl
          · rw [hps _ h]; rfl
      rw [he]; omega
    · have ih := sb_prev n (p / 2) (q / 2) (s / 2) (by omega) (h2 hps) (h2 hqs) (by omega)
      have e1 : ((p - 1) &&& s) / 2 = (p / 2 - 1) &&& (s / 2) := by
        apply Nat.eq_of_testBit_eq
        intro i
        rw [← Nat.testBit_succ, Nat.testBit_and, Nat.testBit_and, Nat.testBit_succ, Nat.testBit_succ, show (p - 1) / 2 = p / 2 - 1 by omega]
      have e2 : q % 2 ≤ ((p - 1) &&& s) % 2 := by
        by_cases hq2 : q % 2 = 1
        · have b : q.testBit 0 = true := by rw [Nat.testBit_zero]; simp [hq2]
          have c : ((p - 1) &&& s).testBit 0 = true := by
            rw [Nat.testBit_and, hqs 0 b, Nat.testBit_zero]
            simp; omega
          rw [Nat.testBit_zero] at c
          have c := of_decide_eq_true c
          omega
        · omega
      omega
theorem ws_cong {w : Nat → Nat} {p q : Nat → Bool} : ∀ {k : Nat}, (∀ i, i < k → p i = q i) → ws w p k = ws w q k
  | 0, _ => rfl
  | k + 1, h => by
    rw [ws_s, ws_s, ws_cong (fun i hi => h i (by omega)), h k (by omega)]
theorem ws_add {w : Nat → Nat} {p q : Nat → Bool} {h : Nat} : ∀ {k : Nat}, h < k → q h = false → p h = true → (∀ i, i < k → i ≠ h → p i = q i) → ws w p k = ws w q k + w h
  | 0, hk, _, _, _ => absurd hk (by omega)
  | k + 1, hk, h1, h2, h3 => by
    rw [ws_s, ws_s]
    by_cases e : h = k
    · subst e
      rw [ws_cong (fun i hi => h3 i (by omega) (by omega)), h1, h2, if_pos rfl, if_neg (by decide)]
      omega
    · rw [ws_add (k := k) (by omega) h1 h2 (fun i hi hne => h3 i (by omega) hne), h3 k (by omega) (fun q => e q.symm)]
      split <;> omega
theorem ws_one {w : Nat → Nat} {p : Nat → Bool} {h k : Nat} (hk : h < k) (hp : p h = true) : w h ≤ ws w p k := by
  have e : ws w (fun i => decide (i = h)) k ≤ ws w p k := ws_mono (fun i _ q => by
    have : i = h := by simpa using q
    rw [this]; exact hp)
  have e2 : ws w (fun i => decide (i = h)) k = ws w (fun _ => false) k + w h := ws_add hk rfl (by simp) (fun i _ hne => by simp [hne])
  omega
/-- behind one more pot -/
def aft (c b x : Nat) : Nat := if b % 1000 + x ≤ c then b + x else (b / 1000 + 1) * 1000 + x
theorem t_bit8 {q i : Nat} (hq : q < 256) (h : q.testBit i = true) : i < 8 := by
  rcases Nat.lt_or_ge i 8 with h1 | h1
  · exact h1
  · rw [t_hi hq h1] at h; exact absurd h (by decide)
theorem ne0_bit {q : Nat} (h : q ≠ 0) : ∃ i, q.testBit i = true := by
  by_cases hex : ∃ i, q.testBit i = true
  · exact hex
  · exfalso
    apply h
    apply Nat.eq_of_testBit_eq
    intro i
    rw [Nat.zero_testBit]
    cases e : q.testBit i
    · rfl
    · exact absurd ⟨i, e⟩ hex
theorem dN_lt_self {q p i : Nat} (hq : q < 256) (hi : q.testBit i = true) (hp : p.testBit i = true) : dN q p < q := by
  have h1 := dN_le q p
  rcases Nat.lt_or_ge (dN q p) q with h2 | h2
  · exact h2
  · exfalso
    have e : dN q p = q := by omega
    have := t_dN hq p i
    rw [e, hi, hp] at this
    exact absurd this (by decide)
section
variable {H P c : Nat} {e A B : Nat → Nat}
/-- what both tables keep to -/
def TA (H P c : Nat) (e A : Nat → Nat) : Prop := A 0 = 0 ∧ (∀ s, sb s P → A s ≤ 100000) ∧ (∀ s p, sb s P → sb p s → p ≠ 0 → ws e p.testBit H ≤ c → A s ≤ A (dN s p) + 1) ∧ ∀ s, sb s P → s ≠ 0 → A s = 100000 ∨ ∃ p, sb p s ∧ p ≠ 0 ∧ ws e p.testBit H ≤ c ∧ A s = A (dN s p) + 1
def TB (H P c : Nat) (e B : Nat → Nat) : Prop := B 0 = c ∧ (∀ s h, sb s P → h < H → s.testBit h = true → B s ≤ aft c (B (dN s (2 ^ h))) (e h)) ∧ ∀ s, sb s P → s ≠ 0 → ∃ h, h < H ∧ s.testBit h = true ∧ B s = aft c (B (dN s (2 ^ h))) (e h)
theorem pq_add (hP : P < 256) (hPH : ∀ i, P.testBit i = true → i < H) (hc : c ≤ 999) (hB : TB H P c e B) {S k : Nat} (hk : 1 ≤ k) (hS : sb S P) (hS0 : B S ≤ 1000 * (k - 1) + c) : ∀ q, sb q P → (∀ i, q.testBit i = true → S.testBit i = false) → ws e q.testBit H ≤ c → q ≠ 0 → B (S ||| q) ≤ 1000 * k + ws e q.testBit H := by
  intro q
  induction q using Nat.strongRecOn with
  | ind q ih =>
    intro hq hd hw hne
    have hq256 := sb_lt hq hP
    have hS256 := sb_lt hS hP
    obtain ⟨h, hh⟩ := ne0_bit hne
    have hhH := hPH h (hq h hh)
    have hu : sb (S ||| q) P := fun i hi => by
      rw [Nat.testBit_or] at hi
      cases hs : S.testBit i
      · rw [hs] at hi; exact hq i (by simpa using hi)
      · exact hS i hs
    have hb := hB.2.1 (S ||| q) h hu hhH (by rw [Nat.testBit_or, hh, Bool.or_true])
    have he : dN (S ||| q) (2 ^ h) = S ||| dN q (2 ^ h) := by
      apply e_ext (dN_lt (sb_lt hu hP) _) (Nat.or_lt_two_pow (n := 8) hS256 (dN_lt hq256 _))
      intro i hi
      rw [t_dN (sb_lt hu hP), Nat.testBit_or, Nat.testBit_or, t_dN hq256, t_pow]
      by_cases e : h = i
      · subst e
        rw [hd h hh]; simp
      · simp [e]
    rw [he] at hb
    have hqs : sb (dN q (2 ^ h)) q := sb_dN hq256
    have hsum : ws e q.testBit H = ws e (dN q (2 ^ h)).testBit H + e h := ws_add hhH (by rw [t_dN hq256, t_pow]; simp) hh (fun i _ hne => by have hn : ¬ h = i := fun q => hne q.symm
                                                                                                                                             rw [t_dN hq256, t_pow]; simp [hn])
    have hlt : dN q (2 ^ h) < q := dN_lt_self hq256 hh (by rw [t_pow]; simp)
    by_cases hz : dN q (2 ^ h) = 0
    · rw [hz, Nat.or_zero] at hb
      have hw0 : ws e (dN q (2 ^ h)).testBit H = 0 := by
        rw [hz]
        have : ∀ k, ws e (0 : Nat).testBit k = 0 := by
          intro k
          induction k with
          | zero => rfl
          | succ k ih => rw [ws_s, ih, Nat.zero_testBit]; rfl
        exact this H
      unfold aft at hb
      split at hb <;> omega
    · have b2 := ih (dN q (2 ^ h)) hlt (sb_trans hqs hq) (fun i hi => hd i (hqs i hi)) (by omega) hz
      unfold aft at hb
      split at hb <;> omega
theorem pq_le (hP : P < 256) (hPH : ∀ i, P.testBit i = true → i < H) (hc : c ≤ 999) (hA : TA H P c e A) (hB : TB H P c e B) : ∀ s, sb s P → A s < 100000 → B s ≤ 1000 * A s + c := by
  intro s
  induction s using Nat.strongRecOn with
  | ind s ih =>
    intro hs hlt
    have hs256 := sb_lt hs hP
    by_cases hz : s = 0
    · subst hz
      rw [hB.1]; omega
    · rcases hA.2.2.2 s hs hz with q | ⟨p, p1, p2, p3, p4⟩
      · omega
      · obtain ⟨i, hi⟩ := ne0_bit p2
        have hp256 := sb_lt p1 hs256
        have b1 := ih (dN s p) (dN_lt_self hs256 (p1 i hi) hi) (sb_trans (sb_dN hs256) hs) (by omega)
        have b2 := pq_add hP hPH hc hB (S := dN s p) (k := A s) (by omega) (sb_trans (sb_dN hs256) hs) (by rw [p4, Nat.add_sub_cancel]; exact b1) p (sb_trans p1 hs) (fun i hi => by rw [t_dN hs256, hi]; simp) p3 p2
        have he : dN s p ||| p = s := by
          apply e_ext (Nat.or_lt_two_pow (n := 8) (dN_lt hs256 _) hp256) hs256
          intro i _
          rw [Nat.testBit_or, t_dN hs256]
          cases h1 : p.testBit i
          · simp
          · rw [p1 i h1]; rfl
        rw [he] at b2
        omega
theorem pq_ge (hP : P < 256) (hPH : ∀ i, P.testBit i = true → i < H) (hH : H ≤ 8) (hc : c ≤ 999) (he1 : ∀ i, P.testBit i = true → 1 ≤ e i ∧ e i ≤ c) (hA : TA H P c e A) (hB : TB H P c e B) : ∀ s, sb s P → s ≠ 0 → ∃ p, sb p s ∧ p ≠ 0 ∧ ws e p.testBit H = B s % 1000 ∧ B s % 1000 ≤ c ∧ 1 ≤ B s / 1000 ∧ A (dN s p) ≤ B s / 1000 - 1 := by
  intro s
  induction s using Nat.strongRecOn with
  | ind s ih =>
    intro hs hz
    have hs256 := sb_lt hs hP
    obtain ⟨h, hhH, hh, hb⟩ := hB.2.2 s hs hz
    have hlt : dN s (2 ^ h) < s := dN_lt_self hs256 hh (by rw [t_pow]; simp)
    have ⟨x1, x2⟩ := he1 h (hs h hh)
    have hS : sb (dN s (2 ^ h)) P := sb_trans (sb_dN hs256) hs
    have hone : ws e (2 ^ h).testBit H = e h := by
      have h0 : ∀ k, ws e (0 : Nat).testBit k = 0 := by
        intro k
        induction k with
        | zero => rfl
        | succ k ih => rw [ws_s, ih, Nat.zero_testBit]; rfl
      have := ws_add (w := e) (p := (2 ^ h).testBit) (q := (0 : Nat).testBit) hhH (Nat.zero_testBit h) (by rw [t_pow]; simp) (fun i _ hne => by have hn : ¬ h = i := fun q => hne q.symm
                                                                                                                                                rw [t_pow, Nat.zero_testBit]; simp [hn])
      rw [this, h0]; omega
    have hpb : sb (2 ^ h) s := fun i hi => by
      rw [t_pow] at hi
      have : h = i := by simpa using hi
      rw [← this]; exact hh
    have hp0 : (2 : Nat) ^ h ≠ 0 := by
      have := Nat.two_pow_pos h
      omega
    by_cases hz2 : dN s (2 ^ h) = 0
    · refine ⟨2 ^ h, hpb, hp0, ?_⟩
      rw [hz2, hB.1] at hb
      unfold aft at hb
      rw [if_neg (by omega)] at hb
      rw [hone, hz2, hA.1]
      omega
    · obtain ⟨p, p1, p2, p3, p4, p5, p6⟩ := ih _ hlt hS hz2
      have hp256 := sb_lt p1 (dN_lt hs256 _)
      unfold aft at hb
      by_cases hf : B (dN s (2 ^ h)) % 1000 + e h ≤ c
      · rw [if_pos hf] at hb
        have hph : p.testBit h = false := by
          cases q : p.testBit h
          · rfl
          · have := p1 h q
            rw [t_dN hs256, t_pow] at this
            simp at this
        refine ⟨p ||| 2 ^ h, fun i hi => ?_, ?_, ?_, ?_⟩
        · rw [Nat.testBit_or] at hi
          cases q : p.testBit i
          · rw [q] at hi; exact hpb i (by simpa using hi)
          · exact sb_dN hs256 i (p1 i q)
        · intro q
          have : (p ||| 2 ^ h).testBit h = false := by rw [q, Nat.zero_testBit]
          rw [Nat.testBit_or, t_pow] at this
          simp at this
        · rw [ws_add (q := p.testBit) hhH hph (by rw [Nat.testBit_or, t_pow]; simp) (fun i _ hne => by have hn : ¬ h = i := fun q => hne q.symm
                                                                                                       rw [Nat.testBit_or, t_pow]; simp [hn]), p3]
          omega
        · have hd : dN s (p ||| 2 ^ h) = dN (dN s (2 ^ h)) p := by
            apply e_ext (dN_lt hs256 _) (dN_lt (dN_lt hs256 _) _)
            intro i _
            rw [t_dN hs256, t_dN (dN_lt hs256 _), t_dN hs256, Nat.testBit_or]
            cases s.testBit i <;> cases p.testBit i <;> cases (2 ^ h).testBit i <;> rfl
          rw [hd]
          omega
      · rw [if_neg hf] at hb
        have ha := hA.2.2.1 (dN s (2 ^ h)) p hS p1 p2 (by omega)
        refine ⟨2 ^ h, hpb, hp0, ?_⟩
        rw [hone]
        omega
theorem pq_same (hP : P < 256) (hPH : ∀ i, P.testBit i = true → i < H) (hH : H ≤ 8) (hc : c ≤ 999) (he1 : ∀ i, P.testBit i = true → 1 ≤ e i ∧ e i ≤ c) (hA : TA H P c e A) (hB : TB H P c e B) (hB9 : B P < 50000000) : A P = B P / 1000 ∧ A P < 100000 := by
  by_cases hz : P = 0
  · subst hz
    rw [hA.1, hB.1]
    omega
  · obtain ⟨p, p1, p2, p3, p4, p5, p6⟩ := pq_ge hP hPH hH hc he1 hA hB P (sb_refl P) hz
    have h1 := hA.2.2.1 P p (sb_refl P) p1 p2 (by omega)
    have h2 := pq_le hP hPH hc hA hB P (sb_refl P) (by omega)
    omega
theorem pq_none (hP : P < 256) {h : Nat} (hhH : h < H) (hbig : c < e h) (hA : TA H P c e A) : ∀ s, sb s P → s.testBit h = true → A s = 100000 := by
  intro s
  induction s using Nat.strongRecOn with
  | ind s ih =>
    intro hs hh
    have hs256 := sb_lt hs hP
    have hz : s ≠ 0 := by
      intro q
      rw [q, Nat.zero_testBit] at hh; exact absurd hh (by decide)
    rcases hA.2.2.2 s hs hz with q | ⟨p, p1, p2, p3, p4⟩
    · exact q
    · exfalso
      obtain ⟨i, hi⟩ := ne0_bit p2
      have hph : p.testBit h = false := by
        cases q : p.testBit h
        · rfl
        · have := ws_one (w := e) hhH q
          omega
      have := ih (dN s p) (dN_lt_self hs256 (p1 i hi) hi) (sb_trans (sb_dN hs256) hs) (by rw [t_dN hs256, hh, hph]; rfl)
      have := hA.2.1 s hs
      omega
end
