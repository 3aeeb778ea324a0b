/-! who gets which doubts: when no more can be placed (no memory in it); the class's place -/
def su (g : Nat → Nat) : Nat → Nat
  | 0 => 0
  | n + 1 => su g n + g n
theorem su_add (f g : Nat → Nat) : ∀ n, su (fun i => f i + g i) n = su f n + su g n
  | 0 => rfl
  | n + 1 => by
    show su (fun i => f i + g i) n + (f n + g n) = su f n + f n + (su g n + g n)
    rw [su_add f g n]; omega
theorem su_cN (p : Nat → Bool) : ∀ n, su (fun i => if p i = true then 1 else 0) n = cN p n
  | 0 => rfl
  | n + 1 => by
    show su (fun i => if p i = true then 1 else 0) n + _ = _
    rw [su_cN p n, cN_s]
theorem su_0 : ∀ n, su (fun _ => 0) n = 0
  | 0 => rfl
  | n + 1 => by show su (fun _ => 0) n + 0 = 0; rw [su_0 n]
theorem su_swap (f : Nat → Nat → Bool) (n : Nat) : ∀ k, su (fun h => cN (f h) k) n = su (fun x => cN (fun h => f h x) n) k
  | 0 => by
    show su (fun _ => 0) n = 0
    exact su_0 n
  | k + 1 => by
    show su (fun h => cN (f h) k + if f h k = true then 1 else 0) n = su (fun x => cN (fun h => f h x) n) k + cN (fun h => f h k) n
    rw [su_add, su_swap f n k, su_cN]
theorem su_mono {f g : Nat → Nat} : ∀ {n : Nat}, (∀ i, i < n → f i ≤ g i) → su f n ≤ su g n
  | 0, _ => Nat.le_refl 0
  | n + 1, h => by
    have h1 := su_mono (f := f) (g := g) (n := n) (fun i hi => h i (by omega))
    have h2 := h n (by omega)
    show su f n + f n ≤ su g n + g n
    omega
theorem su_lt {f g : Nat → Nat} {j : Nat} : ∀ {n : Nat}, j < n → (∀ i, i < n → f i ≤ g i) → f j < g j → su f n < su g n
  | 0, hj, _, _ => absurd hj (by omega)
  | n + 1, hj, h, hlt => by
    show su f n + f n < su g n + g n
    by_cases e : j = n
    · subst e
      have h1 := su_mono (f := f) (g := g) (n := j) (fun i hi => h i (by omega))
      omega
    · have h1 := su_lt (f := f) (g := g) (n := n) (by omega) (fun i hi => h i (by omega)) hlt
      have h2 := h n (by omega)
      omega
/-- how many have x -/
def cnt (Y : Nat → Nat) (x : Nat) : Nat := cN (fun h => (Y h).testBit x) 8
theorem pc_split (T Z : Nat) : pc Z = cN (fun x => T.testBit x && Z.testBit x) 8 + cN (fun x => !T.testBit x && Z.testBit x) 8 := by
  unfold pc
  have : ∀ k, cN (fun t => Z.testBit t) k = cN (fun x => T.testBit x && Z.testBit x) k + cN (fun x => !T.testBit x && Z.testBit x) k := by
    intro k
    induction k with
    | zero => rfl
    | succ k ih =>
      rw [cN_s, cN_s, cN_s, ih]
      cases T.testBit k <;> cases Z.testBit k <;> simp <;> omega
  exact this 8
theorem no_more {Y X m l : Nat → Nat} {T h0 : Nat} (hX : ∀ h, h < 8 → X h < 256) (hm : ∀ h, h < 8 → m h < 256) (hh0 : h0 < 8) (sz : ∀ h, h < 8 → pc (Y h) + (if h = h0 then 1 else 0) ≤ pc (X h)) (al : ∀ h, h < 8 → sb (dN (X h) (Y h)) (m h)) (cap : ∀ x, x < 8 → cnt X x ≤ l x + cnt Y x) (f1 : ∀ x, x < 8 → T.testBit x = true → l x = 0) (f2 : ∀ h, h < 8 → (h = h0 ∨ ∃ x, x < 8 ∧ T.testBit x = true ∧ (Y h).testBit x = true) → sb (dN (m h) (Y h)) T) : False := by
  have key : ∀ h, h < 8 → cN (fun x => T.testBit x && (Y h).testBit x) 8 + (if h = h0 then 1 else 0) ≤ cN (fun x => T.testBit x && (X h).testBit x) 8 := by
    intro h hh
    by_cases c : h = h0 ∨ ∃ x, x < 8 ∧ T.testBit x = true ∧ (Y h).testBit x = true
    · have hs := f2 h hh c
      have ho : cN (fun x => !T.testBit x && (X h).testBit x) 8 ≤ cN (fun x => !T.testBit x && (Y h).testBit x) 8 := by
        rw [cN_ws, cN_ws]
        apply ws_mono
        intro x _ q
        have q1 : T.testBit x = false ∧ (X h).testBit x = true := by simpa using q
        cases hy : (Y h).testBit x
        · exfalso
          have a1 := al h hh x (by rw [t_dN (hX h hh), q1.2, hy]; rfl)
          have a2 := hs x (by rw [t_dN (hm h hh), a1, hy]; rfl)
          rw [q1.1] at a2; exact absurd a2 (by decide)
        · rw [q1.1]; rfl
      have e1 := pc_split T (Y h)
      have e2 := pc_split T (X h)
      have e3 := sz h hh
      omega
    · have hz : cN (fun x => T.testBit x && (Y h).testBit x) 8 = 0 := by
        rw [cN_zero]
        intro x hx
        cases h1 : T.testBit x
        · rfl
        · cases h2 : (Y h).testBit x
          · rfl
          · exact absurd (.inr ⟨x, hx, h1, h2⟩) c
      have hne : ¬ h = h0 := fun q => c (.inl q)
      rw [hz, if_neg hne]; omega
  have s1 : su (fun h => cN (fun x => T.testBit x && (Y h).testBit x) 8) 8 < su (fun h => cN (fun x => T.testBit x && (X h).testBit x) 8) 8 := su_lt hh0 (fun i hi => by have := key i hi; omega) (by have := key h0 hh0; rw [if_pos rfl] at this; omega)
  rw [su_swap (fun h x => T.testBit x && (Y h).testBit x), su_swap (fun h x => T.testBit x && (X h).testBit x)] at s1
  have s2 : su (fun x => cN (fun h => T.testBit x && (X h).testBit x) 8) 8 ≤ su (fun x => cN (fun h => T.testBit x && (Y h).testBit x) 8) 8 := by
    apply su_mono
    intro x hx
    cases h1 : T.testBit x
    · simp only [Bool.false_and]; exact Nat.le_refl _
    · simp only [Bool.true_and]
      have := cap x hx
      rw [f1 x hx h1, Nat.zero_add] at this
      exact this
  omega
/-- the class's places: given, may, left, tried -/
def GV (Y m l : Nat → Nat) (T : Nat) (σ : z_M) : Prop := (∀ h, h < 8 → σ 107 h = nI (Y h) ∧ Y h < 256 ∧ σ 108 h = nI (m h) ∧ m h < 256) ∧ (∀ x, x < 8 → σ 109 x = nI (l x) ∧ l x ≤ 1000) ∧ σ 106 4 = nI T ∧ T < 256
def GF (σ σ' : z_M) : Prop := (∀ c, c ≠ 106 → c ≠ 107 → c ≠ 109 → σ' c = σ c) ∧ ∀ k, k ≠ 4 → σ' 106 k = σ 106 k
theorem GF_refl (σ : z_M) : GF σ σ := ⟨fun _ _ _ _ => rfl, fun _ _ => rfl⟩
theorem GF_trans {σ σ' σ'' : z_M} (h : GF σ σ') (g : GF σ' σ'') : GF σ σ'' := ⟨fun c a b d => (g.1 c a b d).trans (h.1 c a b d), fun k a => (g.2 k a).trans (h.2 k a)⟩
/-- what was tried in vain -/
def QV (Y m l : Nat → Nat) (T T' : Nat) : Prop := ∀ x, T'.testBit x = true → T.testBit x = false → x < 8 ∧ l x = 0 ∧ ∀ h, h < 8 → (Y h).testBit x = true → sb (dN (m h) (Y h)) T'
theorem QV_trans {Y m l : Nat → Nat} {T T1 T2 : Nat} (h : QV Y m l T T1) (g : QV Y m l T1 T2) (hs : sb T1 T2) : QV Y m l T T2 := by
  intro x h1 h2
  cases h3 : T1.testBit x
  · exact g x h1 h3
  · obtain ⟨a, b, c⟩ := h x h3 h2
    exact ⟨a, b, fun h hh hy => sb_trans (c h hh hy) hs⟩
/-- what was placed: g of h more than before; it leaves alone what was tried before -/
def SV1 (Y m l Y' l' : Nat → Nat) (T : Nat) (d : Nat → Nat) : Prop := (∀ h, h < 8 → pc (Y' h) = pc (Y h) + d h) ∧ (∀ h, h < 8 → sb (dN (Y' h) (Y h)) (m h)) ∧ (∀ x, x < 8 → l' x + cnt Y' x = l x + cnt Y x) ∧ ∀ x, x < 8 → T.testBit x = true → l' x = l x ∧ ∀ h, h < 8 → (Y' h).testBit x = (Y h).testBit x
def put (Y : Nat → Nat) (h v : Nat) : Nat → Nat := fun i => if i = h then v else Y i
theorem put_eq {Y : Nat → Nat} {h v : Nat} : put Y h v h = v := if_pos rfl
theorem put_ne {Y : Nat → Nat} {h v i : Nat} (hi : i ≠ h) : put Y h v i = Y i := if_neg hi
theorem pc_or {s t : Nat} (hs : s < 256) (ht : t < 8) (hb : s.testBit t = false) : pc (s ||| 2 ^ t) = pc s + 1 := by
  unfold pc
  rw [cN_ws, cN_ws]
  exact ws_add (w := fun _ => 1) ht hb (by rw [Nat.testBit_or, t_pow]; simp) (fun i _ hne => by
    have hn : ¬ t = i := fun q => hne q.symm
    rw [Nat.testBit_or, t_pow]; simp [hn])
theorem cnt_put {Y : Nat → Nat} {h v x : Nat} (hh : h < 8) : cnt (put Y h v) x + (if (Y h).testBit x = true then 1 else 0) = cnt Y x + if v.testBit x = true then 1 else 0 := by
  unfold cnt
  have gen : ∀ k, cN (fun i => (put Y h v i).testBit x) k + (if h < k ∧ (Y h).testBit x = true then 1 else 0) = cN (fun i => (Y i).testBit x) k + if h < k ∧ v.testBit x = true then 1 else 0 := by
    intro k
    induction k with
    | zero => rw [if_neg (by omega), if_neg (by omega)]; rfl
    | succ k ih =>
      rw [cN_s, cN_s]
      by_cases e : k = h
      · subst e
        rw [if_neg (show ¬ (k < k ∧ (Y k).testBit x = true) by omega), if_neg (show ¬ (k < k ∧ v.testBit x = true) by omega)] at ih
        rw [put_eq]
        have : k < k + 1 := by omega
        simp only [this, true_and]
        omega
      · rw [put_ne e]
        have : (h < k + 1) = (h < k) := by rw [eq_iff_iff]; omega
        simp only [this]
        omega
  have := gen 8
  simp only [hh, true_and] at this
  exact this
theorem GV_hand {Y m l : Nat → Nat} {T h t : Nat} {σ : z_M} (hG : GV Y m l T σ) (hh : h < 8) (ht : t < 8) (hl : 0 < l t) : ∃ σ', f2_hand (nI h) (nI t) σ = some ((), σ') ∧ GV (put Y h (Y h ||| 2 ^ t)) m (put l t (l t - 1)) T σ' ∧ GF σ σ' := by
  obtain ⟨g1, g2, g3, g4⟩ := hG
  obtain ⟨a1, a2, a3, a4⟩ := g1 h hh
  obtain ⟨b1, b2⟩ := g2 t ht
  refine ⟨z_set (z_set σ 107 h (nI (Y h ||| 2 ^ t))) 109 t (nI (l t - 1)), ?_, ⟨fun i hi => ?_, fun x hx => ?_, ?_, g4⟩, fun c p q r => ?_, fun k p => ?_⟩
  · unfold f2_hand
    rw [k_cin _ hh (by omega), k_cin _ hh (by omega), q_ix (by omega), a1, k_shl t (by omega), k_or, q_let, k_cin _ ht (by omega), k_cin _ ht (by omega), q_ix (by omega), s_ne (by omega), b1, l_1, pk_sub (by omega), q_let]
  · rw [s_ne (show 107 ≠ 109 by omega), s_ne (show 108 ≠ 109 by omega), s_ne (show 108 ≠ 107 by omega)]
    by_cases e : i = h
    · subst e
      rw [s_eq, put_eq]
      exact ⟨rfl, Nat.or_lt_two_pow (n := 8) a2 (p8_lt ht), a3, a4⟩
    · rw [s_kn e, put_ne e]
      exact g1 i hi
  · by_cases e : x = t
    · subst e
      rw [s_eq, put_eq]
      exact ⟨rfl, by omega⟩
    · rw [s_kn e, put_ne e, s_ne (by omega)]
      exact g2 x hx
  · rw [s_ne (by omega), s_ne (by omega)]; exact g3
  · rw [s_ne r, s_ne q]
  · rw [s_ne (by omega), s_ne (by omega)]
theorem GV_drop {Y m l : Nat → Nat} {T h t : Nat} {σ : z_M} (hG : GV Y m l T σ) (hh : h < 8) (ht : t < 8) (hl : l t ≤ 999) : ∃ σ', f2_drop (nI h) (nI t) σ = some ((), σ') ∧ GV (put Y h (dN (Y h) (2 ^ t))) m (put l t (l t + 1)) T σ' ∧ GF σ σ' := by
  obtain ⟨g1, g2, g3, g4⟩ := hG
  obtain ⟨a1, a2, a3, a4⟩ := g1 h hh
  obtain ⟨b1, b2⟩ := g2 t ht
  refine ⟨z_set (z_set σ 107 h (nI (dN (Y h) (2 ^ t)))) 109 t (nI (l t + 1)), ?_, ⟨fun i hi => ?_, fun x hx => ?_, ?_, g4⟩, fun c p q r => ?_, fun k p => ?_⟩
  · unfold f2_drop
    rw [k_cin _ hh (by omega), k_cin _ hh (by omega), q_ix (by omega), a1, k_shl t (by omega), k_dN a2, q_let, k_cin _ ht (by omega), k_cin _ ht (by omega), q_ix (by omega), s_ne (by omega), b1, nI_1, q_let]
  · rw [s_ne (show 107 ≠ 109 by omega), s_ne (show 108 ≠ 109 by omega), s_ne (show 108 ≠ 107 by omega)]
    by_cases e : i = h
    · subst e
      rw [s_eq, put_eq]
      exact ⟨rfl, dN_lt a2 _, a3, a4⟩
    · rw [s_kn e, put_ne e]
      exact g1 i hi
  · by_cases e : x = t
    · subst e
      rw [s_eq, put_eq]
      exact ⟨rfl, by omega⟩
    · rw [s_kn e, put_ne e, s_ne (by omega)]
      exact g2 x hx
  · rw [s_ne (by omega), s_ne (by omega)]; exact g3
  · rw [s_ne r, s_ne q]
  · rw [s_ne (by omega), s_ne (by omega)]
def GW (Y m l : Nat → Nat) (σ : z_M) : Prop := (∀ h, h < 8 → σ 107 h = nI (Y h) ∧ Y h < 256 ∧ σ 108 h = nI (m h) ∧ m h < 256) ∧ ∀ x, x < 8 → σ 109 x = nI (l x) ∧ l x ≤ 1000
theorem GW_hand {Y m l : Nat → Nat} {h t : Nat} {σ : z_M} (hG : GW Y m l σ) (hh : h < 8) (ht : t < 8) (hl : 0 < l t) : ∃ σ', f2_hand (nI h) (nI t) σ = some ((), σ') ∧ GW (put Y h (Y h ||| 2 ^ t)) m (put l t (l t - 1)) σ' ∧ GF σ σ' := by
  obtain ⟨g1, g2⟩ := hG
  obtain ⟨a1, a2, a3, a4⟩ := g1 h hh
  obtain ⟨b1, b2⟩ := g2 t ht
  refine ⟨z_set (z_set σ 107 h (nI (Y h ||| 2 ^ t))) 109 t (nI (l t - 1)), ?_, ⟨fun i hi => ?_, fun x hx => ?_⟩, fun c p q r => ?_, fun k p => ?_⟩
  · unfold f2_hand
    rw [k_cin _ hh (by omega), k_cin _ hh (by omega), q_ix (by omega), a1, k_shl t (by omega), k_or, q_let, k_cin _ ht (by omega), k_cin _ ht (by omega), q_ix (by omega), s_ne (by omega), b1, l_1, pk_sub (by omega), q_let]
  · rw [s_ne (show 107 ≠ 109 by omega), s_ne (show 108 ≠ 109 by omega), s_ne (show 108 ≠ 107 by omega)]
    by_cases e : i = h
    · subst e
      rw [s_eq, put_eq]
      exact ⟨rfl, Nat.or_lt_two_pow (n := 8) a2 (p8_lt ht), a3, a4⟩
    · rw [s_kn e, put_ne e]
      exact g1 i hi
  · by_cases e : x = t
    · subst e
      rw [s_eq, put_eq]
      exact ⟨rfl, by omega⟩
    · rw [s_kn e, put_ne e, s_ne (by omega)]
      exact g2 x hx
  · rw [s_ne r, s_ne q]
  · rw [s_ne (by omega), s_ne (by omega)]
theorem GW_drop {Y m l : Nat → Nat} {h t : Nat} {σ : z_M} (hG : GW Y m l σ) (hh : h < 8) (ht : t < 8) (hl : l t ≤ 999) : ∃ σ', f2_drop (nI h) (nI t) σ = some ((), σ') ∧ GW (put Y h (dN (Y h) (2 ^ t))) m (put l t (l t + 1)) σ' ∧ GF σ σ' := by
  obtain ⟨g1, g2⟩ := hG
  obtain ⟨a1, a2, a3, a4⟩ := g1 h hh
  obtain ⟨b1, b2⟩ := g2 t ht
  refine ⟨z_set (z_set σ 107 h (nI (dN (Y h) (2 ^ t)))) 109 t (nI (l t + 1)), ?_, ⟨fun i hi => ?_, fun x hx => ?_⟩, fun c p q r => ?_, fun k p => ?_⟩
  · unfold f2_drop
    rw [k_cin _ hh (by omega), k_cin _ hh (by omega), q_ix (by omega), a1, k_shl t (by omega), k_dN a2, q_let, k_cin _ ht (by omega), k_cin _ ht (by omega), q_ix (by omega), s_ne (by omega), b1, nI_1, q_let]
  · rw [s_ne (show 107 ≠ 109 by omega), s_ne (show 108 ≠ 109 by omega), s_ne (show 108 ≠ 107 by omega)]
    by_cases e : i = h
    · subst e
      rw [s_eq, put_eq]
      exact ⟨rfl, dN_lt a2 _, a3, a4⟩
    · rw [s_kn e, put_ne e]
      exact g1 i hi
  · by_cases e : x = t
    · subst e
      rw [s_eq, put_eq]
      exact ⟨rfl, by omega⟩
    · rw [s_kn e, put_ne e, s_ne (by omega)]
      exact g2 x hx
  · rw [s_ne r, s_ne q]
  · rw [s_ne (by omega), s_ne (by omega)]
/-- one thing more for h -/
theorem SV_hand {Y m l Y1 l1 : Nat → Nat} {T h t : Nat} (hY : ∀ i, i < 8 → Y i < 256) (hY1 : ∀ i, i < 8 → Y1 i < 256) (hh : h < 8) (ht : t < 8) (s1 : ∀ i, i < 8 → pc (Y1 i) = pc (Y i)) (s2 : ∀ i, i < 8 → sb (dN (Y1 i) (Y i)) (m i)) (s3 : ∀ x, x < 8 → l1 x + cnt Y1 x = l x + cnt Y x) (s4 : ∀ x, x < 8 → T.testBit x = true → l1 x = l x ∧ ∀ i, i < 8 → (Y1 i).testBit x = (Y i).testBit x) (hT : T.testBit t = false) (hmt : (m h).testBit t = true) (hn : (Y1 h).testBit t = false) (hl : 0 < l1 t) : SV1 Y m l (put Y1 h (Y1 h ||| 2 ^ t)) (put l1 t (l1 t - 1)) T (fun i => if i = h then 1 else 0) := by
  refine ⟨fun i hi => ?_, fun i hi => ?_, fun x hx => ?_, fun x hx hb => ?_⟩
  · show pc (put Y1 h (Y1 h ||| 2 ^ t) i) = pc (Y i) + if i = h then 1 else 0
    by_cases e : i = h
    · subst e
      rw [put_eq, if_pos rfl, pc_or (hY1 i hi) ht hn, s1 i hi]
    · rw [put_ne e, if_neg e, s1 i hi, Nat.add_zero]
  · by_cases e : i = h
    · subst e
      rw [put_eq]
      intro x q
      rw [t_dN (Nat.or_lt_two_pow (n := 8) (hY1 i hi) (p8_lt ht)), Nat.testBit_or, t_pow] at q
      by_cases ex : t = x
      · rw [← ex]; exact hmt
      · apply s2 i hi x
        rw [t_dN (hY1 i hi)]
        simpa [ex] using q
    · rw [put_ne e]; exact s2 i hi
  · have e1 := cnt_put (Y := Y1) (h := h) (v := Y1 h ||| 2 ^ t) (x := x) hh
    rw [Nat.testBit_or, t_pow] at e1
    have e3 := s3 x hx
    by_cases ex : x = t
    · subst ex
      rw [put_eq]
      rw [hn] at e1
      simp at e1
      omega
    · rw [put_ne ex]
      have : ¬ t = x := fun q => ex q.symm
      simp [this] at e1
      omega
  · have ex : x ≠ t := by
      intro q
      rw [q, hT] at hb; exact absurd hb (by decide)
    obtain ⟨q1, q2⟩ := s4 x hx hb
    refine ⟨by rw [put_ne ex]; exact q1, fun i hi => ?_⟩
    by_cases e : i = h
    · subst e
      have : ¬ t = x := fun q => ex q.symm
      rw [put_eq, Nat.testBit_or, t_pow, q2 i hi]
      simp [this]
    · rw [put_ne e]; exact q2 i hi
