/-! the class's share: places all, then leads each house to its least set -/
theorem lt_tb : ∀ {i n m : Nat}, n.testBit i = false → m.testBit i = true → (∀ j, i < j → n.testBit j = m.testBit j) → n < m
  | 0, n, m, hn, hm, h => by
    have e : n / 2 = m / 2 := Nat.eq_of_testBit_eq (fun j => by
      rw [← Nat.testBit_succ, ← Nat.testBit_succ]; exact h (j + 1) (by omega))
    rw [Nat.testBit_zero] at hn hm
    have h1 := of_decide_eq_false hn
    have h2 := of_decide_eq_true hm
    omega
  | i + 1, n, m, hn, hm, h => by
    rw [Nat.testBit_succ] at hn hm
    have := lt_tb (i := i) (n := n / 2) (m := m / 2) hn hm (fun j hj => by
      rw [← Nat.testBit_succ, ← Nat.testBit_succ]; exact h (j + 1) (by omega))
    omega
def AS (H : Nat) (M nd st X : Nat → Nat) : Prop := (∀ h, h < 8 → X h < 256 ∧ (H ≤ h → X h = 0) ∧ (h < H → sb (X h) (M h) ∧ pc (X h) = nd h)) ∧ ∀ x, x < 8 → cnt X x ≤ st x
def Fe (H : Nat) (M nd st : Nat → Nat) (k : Nat) (g : Nat → Nat) : Prop := ∃ X, AS H M nd st X ∧ ∀ h, h < k → X h = g h
/-- each of the first k has the least set that leaves the rest a way -/
def Gr (H : Nat) (M nd st : Nat → Nat) (k : Nat) (g : Nat → Nat) : Prop := ∀ h, h < k → Fe H M nd st (h + 1) g ∧ ∀ s, s < g h → ¬ Fe H M nd st (h + 1) (put g h s)
theorem Fe_cong {H k : Nat} {M nd st g g' : Nat → Nat} (h : Fe H M nd st k g) (e : ∀ i, i < k → g' i = g i) : Fe H M nd st k g' := by
  obtain ⟨X, x1, x2⟩ := h
  exact ⟨X, x1, fun i hi => by rw [e i hi]; exact x2 i hi⟩
theorem Gr_same {H k : Nat} {M nd st g g' : Nat → Nat} (h1 : Gr H M nd st k g) (h2 : Gr H M nd st k g') : ∀ i, i < k → g i = g' i := by
  intro i
  induction i using Nat.strongRecOn with
  | ind i ih =>
    intro hi
    obtain ⟨a1, a2⟩ := h1 i hi
    obtain ⟨b1, b2⟩ := h2 i hi
    have e : ∀ j, j < i → g j = g' j := fun j hj => ih j hj (by omega)
    rcases Nat.lt_trichotomy (g i) (g' i) with q | q | q
    · exfalso
      apply b2 (g i) q
      exact Fe_cong a1 (fun j hj => by
        by_cases ej : j = i
        · rw [ej, put_eq]
        · rw [put_ne ej, e j (by omega)])
    · exact q
    · exfalso
      apply a2 (g' i) q
      exact Fe_cong b1 (fun j hj => by
        by_cases ej : j = i
        · rw [ej, put_eq]
        · rw [put_ne ej, e j (by omega)])
theorem sb_pc {a b : Nat} (ha : a < 256) (hb : b < 256) (h : sb a b) (hp : pc a = pc b) : a = b := by
  rcases Nat.eq_or_lt_of_le (Nat.le_refl 0) with _ | q
  · by_cases e : b = a
    · exact e.symm
    · have := pc_strict ha hb (fun i _ => h i) e
      omega
  · omega
theorem dN_sb {X Y m M : Nat} (hX : X < 256) (h : sb (dN X Y) m) (hY : sb Y M) (hm : sb m M) : sb X M := by
  intro x hx
  cases q : Y.testBit x
  · exact hm x (h x (by rw [t_dN hX, hx, q]; rfl))
  · exact hY x q
/-- the state of a share: Y of sizes d, within what may be -/
def SH (H : Nat) (M st Y l : Nat → Nat) : Prop := (∀ h, h < 8 → Y h < 256 ∧ sb (Y h) (M h)) ∧ (∀ h, h < 8 → H ≤ h → Y h = 0) ∧ ∀ x, x < 8 → l x + cnt Y x = st x
theorem SH_CP {H : Nat} {M st Y l : Nat → Nat} (h : SH H M st Y l) (hs : ∀ x, x < 8 → st x ≤ 5) : CP Y l := fun x hx => by
  have := h.2.2 x hx
  have := hs x hx
  omega
theorem e2_fills {H : Nat} {M nd st : Nat → Nat} (hH : H ≤ 8) (hM : ∀ h, h < 8 → M h < 256 ∧ (H ≤ h → M h = 0)) (hst : ∀ x, x < 8 → st x ≤ 5) {h : Nat} (hh : h < H) (K : Nat → Int32 → z_M → Option (Int32 × z_M)) : ∀ (r i f a : Nat) (σ : z_M) (Y l : Nat → Nat), i + r = nd h → nd h ≤ 8 → a + r ≤ 100 → r < f → GW Y M l σ → SH H M st Y l → (∀ j, j < 8 → pc (Y j) = if j < h then nd j else if j = h then i else 0) → σ 106 0 = nI a → (∃ σ', f2_share_L144 K f 1 (nI h) (nI (nd h)) (nI i) σ = some (0, σ') ∧ (∀ c, c < 106 ∨ 109 < c → σ' c = σ c) ∧ ∀ X, ¬ AS H M nd st X) ∨ ∃ σ' Y' l', f2_share_L144 K f 1 (nI h) (nI (nd h)) (nI i) σ = K 1 (nI (h + 1)) σ' ∧ (∀ c, c < 106 ∨ 109 < c → σ' c = σ c) ∧ GW Y' M l' σ' ∧ SH H M st Y' l' ∧ (∀ j, j < 8 → pc (Y' j) = if j < h + 1 then nd j else 0) ∧ σ' 106 0 = nI (a + r)
  | 0, i, f, a, σ, Y, l, h1, hn, ha, h2, hG, hS, hp, e0 => by
    obtain ⟨f, rfl⟩ : ∃ m, f = m + 1 := ⟨f - 1, by omega⟩
    right
    refine ⟨σ, Y, l, ?_, fun _ _ => rfl, hG, hS, fun j hj => ?_, e0⟩
    · unfold f2_share_L144 f2_share_J182
      rw [if_neg (nI_nlt (by omega) (by omega)), nI_1]
    · rw [hp j hj]
      by_cases e1 : j < h
      · rw [if_pos e1, if_pos (by omega)]
      · by_cases e2 : j = h
        · rw [if_neg e1, if_pos e2, if_pos (by omega), e2]; omega
        · rw [if_neg e1, if_neg e2, if_neg (by omega)]
  | r + 1, i, f, a, σ, Y, l, h1, hn, ha, h2, hG, hS, hp, e0 => by
    obtain ⟨f, rfl⟩ : ∃ m, f = m + 1 := ⟨f - 1, by omega⟩
    obtain ⟨x, σ1, Y1, l1, T1, y1, y2, y3, y4⟩ := e2_place (h := h) hG (SH_CP hS hst) (by omega)
    have fr : ∀ c, c < 106 ∨ 109 < c → σ1 c = σ c := fun c hc => y3.1 c (by omega) (by omega) (by omega)
    have hb : f2_share_L144 K (f + 1) 1 (nI h) (nI (nd h)) (nI i) σ = (if x = 0 then some (0, σ1) else f2_share_L144 K f 1 (nI h) (nI (nd h)) (nI (i + 1)) (z_set σ1 106 0 (σ1 106 0 + 1))) := by
      conv => lhs; unfold f2_share_L144
      rw [if_pos (nI_lt (by omega) (by omega)), q_let, y1, q_bnd, q_let, nI_1]
    rw [hb]
    rcases y4 with ⟨rfl, rfl, rfl, y5, y6⟩ | ⟨rfl, y5, y6, y7⟩
    · left
      rw [i_00]
      refine ⟨σ1, rfl, fr, fun X hX => ?_⟩
      refine no_more (Y := Y1) (X := X) (m := M) (l := l1) (T := T1) (h0 := h) (fun j hj => (hX.1 j hj).1) (fun j hj => (hM j hj).1) (by omega) (fun j hj => ?_) (fun j hj x q => ?_) (fun x hx => ?_) (fun x hx q => (y5 x q).2.1) (fun j hj q => ?_)
      · have hpj := hp j hj
        by_cases e1 : j < h
        · rw [hpj, if_pos e1, if_neg (by omega), ((hX.1 j hj).2.2 (by omega)).2]; omega
        · by_cases e2 : j = h
          · rw [hpj, if_neg e1, if_pos e2, if_pos e2, e2, ((hX.1 h (by omega)).2.2 hh).2]; omega
          · rw [hpj, if_neg e1, if_neg e2, if_neg e2]; omega
      · have hxj : (X j).testBit x = true := sb_dN (hX.1 j hj).1 x q
        by_cases hjH : j < H
        · exact ((hX.1 j hj).2.2 hjH).1 x hxj
        · rw [(hX.1 j hj).2.1 (by omega), Nat.zero_testBit] at hxj; exact absurd hxj (by decide)
      · rw [hS.2.2 x hx]; exact hX.2 x hx
      · rcases q with q | ⟨x, q1, q2, q3⟩
        · rw [q]; exact y6
        · exact (y5 x q2).2.2 j hj q3
    · rw [i_10, y3.2 0 (by omega), e0, nI_1]
      have hS1 : SH H M st Y1 l1 := by
        refine ⟨fun j hj => ?_, fun j hj hjH => ?_, fun x hx => by rw [y7 x hx]; exact hS.2.2 x hx⟩
        · exact ⟨(y2.1 j hj).2.1, dN_sb (y2.1 j hj).2.1 (y6 j hj) (hS.1 j hj).2 (sb_refl _)⟩
        · have e1 := y6 j hj
          rw [(hM j hj).2 hjH, hS.2.1 j hj hjH] at e1
          apply Nat.eq_of_testBit_eq
          intro x
          rw [Nat.zero_testBit]
          cases q : (Y1 j).testBit x
          · rfl
          · have := e1 x (by rw [t_dN (y2.1 j hj).2.1, q, Nat.zero_testBit]; rfl)
            rw [Nat.zero_testBit] at this; exact absurd this (by decide)
      have hG1 : GW Y1 M l1 (z_set σ1 106 0 (nI (a + 1))) := ⟨fun j hj => by rw [s_ne (by omega), s_ne (by omega)]; exact y2.1 j hj, fun x hx => by rw [s_ne (by omega)]; exact y2.2 x hx⟩
      have ih := e2_fills hH hM hst hh K r (i + 1) f (a + 1) (z_set σ1 106 0 (nI (a + 1))) Y1 l1 (by omega) hn (by omega) (by omega) hG1 hS1 (fun j hj => by
        rw [y5 j hj, hp j hj]
        by_cases e1 : j < h
        · rw [if_pos e1, if_pos e1, if_neg (by omega)]; omega
        · by_cases e2 : j = h
          · rw [if_neg e1, if_pos e2, if_pos e2, if_neg e1, if_pos e2]
          · rw [if_neg e1, if_neg e2, if_neg e2, if_neg e1, if_neg e2]) s_eq
      have fr2 : ∀ c, c < 106 ∨ 109 < c → z_set σ1 106 0 (nI (a + 1)) c = σ c := fun c hc => by rw [s_ne (by omega)]; exact fr c hc
      rcases ih with ⟨σ', z1, z2, z3⟩ | ⟨σ', Y', l', z1, z2, z3, z4, z5, z6⟩
      · exact .inl ⟨σ', z1, fun c hc => (z2 c hc).trans (fr2 c hc), z3⟩
      · exact .inr ⟨σ', Y', l', z1, fun c hc => (z2 c hc).trans (fr2 c hc), z3, z4, z5, by rw [z6]; congr 1; omega⟩
/-- one house is lessened: bits from j on are settled -/
theorem e2_lessL {H k gk : Nat} {M nd st g : Nat → Nat} (hH : H ≤ 8) (hM : ∀ h, h < 8 → M h < 256 ∧ (H ≤ h → M h = 0)) (hst : ∀ x, x < 8 → st x ≤ 5) (hk : k < H) (hg256 : gk < 256) (hgF : Fe H M nd st (k + 1) (put g k gk)) (hgM : ∀ s, s < gk → ¬ Fe H M nd st (k + 1) (put g k s)) : ∀ (j f : Nat) (σ : z_M) (Y m l : Nat → Nat), j ≤ 8 → j < f → GW Y m l σ → AS H M nd st Y → (∀ x, x < 8 → l x + cnt Y x = st x) → (∀ h, h < k → Y h = g h) → (∀ h, h < k → m h = 0) → (∀ h, h < 8 → k < h → m h = M h) → (∀ x, (m k).testBit x = ((M k).testBit x && decide (x < j))) → (∀ x, j ≤ x → (Y k).testBit x = gk.testBit x) → ∃ σ' Y' m' l', f2_lessen_L3 f (nI k) (nI j - 1) σ = some ((), σ') ∧ (∀ c, c < 106 ∨ 109 < c → σ' c = σ c) ∧ σ' 106 0 = σ 106 0 ∧ GW Y' m' l' σ' ∧ AS H M nd st Y' ∧ (∀ x, x < 8 → l' x + cnt Y' x = st x) ∧ (∀ h, h < k → Y' h = g h) ∧ Y' k = gk ∧ (∀ h, h < k + 1 → m' h = 0) ∧ ∀ h, h < 8 → k < h → m' h = M h
  | 0, f, σ, Y, m, l, hj, h2, hG, hA, hl, hYg, hm0, hmM, hmk, hbits => by
    obtain ⟨f, rfl⟩ : ∃ m, f = m + 1 := ⟨f - 1, by omega⟩
    refine ⟨σ, Y, m, l, ?_, fun _ _ => rfl, rfl, hG, hA, hl, hYg, ?_, fun h hh => ?_, hmM⟩
    · unfold f2_lessen_L3
      rw [if_pos (by decide)]
    · exact Nat.eq_of_testBit_eq (fun x => hbits x (Nat.zero_le x))
    · by_cases e : h = k
      · rw [e]
        apply Nat.eq_of_testBit_eq
        intro x
        rw [hmk x, Nat.zero_testBit]
        simp
      · exact hm0 h (by omega)
  | t + 1, f, σ, Y, m, l, hj, h2, hG, hA, hl, hYg, hm0, hmM, hmk, hbits => by
    obtain ⟨f, rfl⟩ : ∃ m, f = m + 1 := ⟨f - 1, by omega⟩
    have ht : t < 8 := by omega
    obtain ⟨a1, a2, a3, a4⟩ := hG.1 k (by omega)
    -- may k without t
    let m1 := put m k (dN (m k) (2 ^ t))
    have hm1k : ∀ x, (m1 k).testBit x = ((M k).testBit x && decide (x < t)) := by
      intro x
      show (put m k (dN (m k) (2 ^ t)) k).testBit x = _
      rw [put_eq, t_dN a4, t_pow, hmk x]
      by_cases e : x < t
      · have h1 : x < t + 1 := by omega
        have h2 : ¬ t = x := by omega
        simp [e, h1, h2]
      · by_cases e2 : t = x
        · simp [e2]
        · have h1 : ¬ x < t + 1 := by omega
          simp [e, h1]
    have hm1ne : ∀ h, h ≠ k → m1 h = m h := fun h hh => put_ne hh
    let σ1 := z_set σ 108 k (nI (dN (m k) (2 ^ t)))
    have hG1 : GW Y m1 l σ1 := by
      refine ⟨fun i hi => ?_, fun x hx => ?_⟩
      · show z_set σ 108 k (nI (dN (m k) (2 ^ t))) 107 i = _ ∧ _ ∧ z_set σ 108 k (nI (dN (m k) (2 ^ t))) 108 i = nI (put m k (dN (m k) (2 ^ t)) i) ∧ put m k (dN (m k) (2 ^ t)) i < 256
        rw [s_ne (show 107 ≠ 108 by omega)]
        by_cases e : i = k
        · subst e
          rw [s_eq, put_eq]
          exact ⟨a1, a2, rfl, dN_lt a4 _⟩
        · rw [s_kn e, put_ne e]; exact hG.1 i hi
      · show z_set σ 108 k _ 109 x = _ ∧ _
        rw [s_ne (by omega)]; exact hG.2 x hx
    have fr1 : ∀ c, c ≠ 108 → σ1 c = σ c := fun c hc => s_ne hc
    -- no way is below gk
    have low : ∀ X, AS H M nd st X → (∀ h, h < k → X h = g h) → gk ≤ X k := by
      intro X x1 x2
      rcases Nat.lt_or_ge (X k) gk with q | q
      · exact absurd ⟨X, x1, fun h hh => by
          by_cases e : h = k
          · rw [e, put_eq]
          · rw [put_ne e]; exact x2 h (by omega)⟩ (hgM (X k) q)
      · exact q
    have ej : nI (t + 1) - 1 = nI t := nI_pred t
    have em : nI t + (-1) = nI t - 1 := by
      apply Int32.toBitVec_inj.mp
      simp [BitVec.sub_eq_add_neg]
    have hbody : f2_lessen_L3 (f + 1) (nI k) (nI (t + 1) - 1) σ = (if nI (Y k &&& 2 ^ t) = 0 then f2_lessen_L3 f (nI k) (nI t - 1) σ1 else z_bnd (f2_drop (nI k) (nI t) σ1) fun _ σ6 => z_bnd (f2_place (nI k) 0 (z_set σ6 106 4 0)) fun r8 σ9 => if r8 = 0 then z_bnd (f2_hand (nI k) (nI t) σ9) fun _ σ11 => f2_lessen_L3 f (nI k) (nI t - 1) σ11 else f2_lessen_L3 f (nI k) (nI t - 1) σ9) := by
      conv => lhs; unfold f2_lessen_L3
      rw [ej, if_neg (nI_pos (by omega)), k_cin _ (by omega) (by omega), k_cin _ (by omega) (by omega), q_ix (show k < 2 ^ 31 by omega), a3, k_shl t (by omega), k_dN a4, q_let, k_cin _ (by omega) (by omega), s_ne (show 107 ≠ 108 by omega), a1, k_and, em]
      rfl
    rw [hbody]
    have hlt : Y k &&& 2 ^ t < 2 ^ 31 := Nat.lt_of_le_of_lt Nat.and_le_left (by omega)
    have hgkM : sb gk (M k) := by
      obtain ⟨X, x1, x2⟩ := hgF
      have := x2 k (by omega)
      rw [put_eq] at this
      rw [← this]
      exact ((x1.1 k (by omega)).2.2 hk).1
    by_cases hy : (Y k).testBit t = true
    · have hne : ¬ Y k &&& 2 ^ t = 0 := fun q => by rw [and_pow.mp q] at hy; exact absurd hy (by decide)
      rw [if_neg (k_nz hne hlt)]
      have hlt5 : l t ≤ 5 := by have := hl t ht; have := hst t ht; omega
      obtain ⟨σ2, v1, v2, v3⟩ := GW_drop (h := k) (t := t) hG1 (by omega) ht (by omega)
      let Y0 := put Y k (dN (Y k) (2 ^ t))
      let l0 := put l t (l t + 1)
      have v2 : GW Y0 m1 l0 σ2 := v2
      have hl0 : ∀ x, x < 8 → l0 x + cnt Y0 x = st x := by
        intro x hx
        have e1 := cnt_put (Y := Y) (h := k) (v := dN (Y k) (2 ^ t)) (x := x) (by omega)
        rw [t_dN a2, t_pow] at e1
        have e3 := hl x hx
        show put l t (l t + 1) x + cnt (put Y k (dN (Y k) (2 ^ t))) x = st x
        by_cases ex : x = t
        · subst ex
          rw [put_eq]
          rw [hy] at e1
          simp at e1
          omega
        · rw [put_ne ex]
          have : ¬ t = x := fun q => ex q.symm
          simp [this] at e1
          omega
      obtain ⟨x, σ3, Y3, l3, T3, w1, w2, w3, w4⟩ := e2_place (h := k) v2 (fun x hx => by have := hl0 x hx; have := hst x hx; omega) (by omega)
      rw [v1, q_bnd, w1, q_bnd]
      have fr3 : ∀ c, c < 106 ∨ 109 < c → σ3 c = σ c := fun c hc => by
        rw [w3.1 c (by omega) (by omega) (by omega), v3.1 c (by omega) (by omega) (by omega)]; exact fr1 c (by omega)
      have f03 : σ3 106 0 = σ 106 0 := by rw [w3.2 0 (by omega), v3.2 0 (by omega)]; show σ1 106 0 = _; rw [fr1 106 (by omega)]
      have hY0k : Y0 k = dN (Y k) (2 ^ t) := put_eq
      have hY0ne : ∀ h, h ≠ k → Y0 h = Y h := fun h hh => put_ne hh
      have hpcY0 : pc (Y k) = pc (Y0 k) + 1 := by rw [hY0k]; exact pc_dN a2 ht hy
      rcases w4 with ⟨rfl, rfl, rfl, w5, w6⟩ | ⟨rfl, w5, w6, w7⟩
      · rw [i_00]
        have hgt : gk.testBit t = true := by
          cases q : gk.testBit t
          · exfalso
            obtain ⟨X, x1, x2⟩ := hgF
            have hXk : X k = gk := by rw [x2 k (by omega), put_eq]
            have hXg : ∀ h, h < k → X h = g h := fun h hh => by rw [x2 h (by omega), put_ne (by omega)]
            refine no_more (Y := Y0) (X := X) (m := m1) (l := l0) (T := T3) (h0 := k) (fun h hh => (x1.1 h hh).1) (fun h hh => (w2.1 h hh).2.2.2) (by omega) (fun h hh => ?_) (fun h hh y hy2 => ?_) (fun y hy2 => by rw [hl0 y hy2]; exact x1.2 y hy2) (fun y hy2 q2 => (w5 y q2).2.1) (fun h hh q2 => ?_)
            · by_cases e : h = k
              · rw [e, if_pos rfl, ((x1.1 k (by omega)).2.2 hk).2, ← ((hA.1 k (by omega)).2.2 hk).2]; omega
              · rw [if_neg e, hY0ne h e]
                by_cases hhH : h < H
                · rw [((x1.1 h hh).2.2 hhH).2, ((hA.1 h hh).2.2 hhH).2]; omega
                · rw [(hA.1 h hh).2.1 (by omega)]
                  have : pc 0 = 0 := by decide
                  omega
            · have hX2 := (x1.1 h hh).1
              rw [t_dN hX2] at hy2
              have hy3 : (X h).testBit y = true ∧ (Y0 h).testBit y = false := by
                revert hy2
                cases (X h).testBit y <;> cases (Y0 h).testBit y <;> simp
              rcases Nat.lt_trichotomy h k with c | c | c
              · rw [hY0ne h (by omega), hYg h c, ← hXg h c, hy3.1] at hy3
                exact absurd hy3.2 (by decide)
              · subst c
                rw [hm1k]
                rw [hXk, hY0k, t_dN a2, t_pow] at hy3
                obtain ⟨z1, z2⟩ := hy3
                by_cases hyt : y = t
                · rw [hyt, q] at z1; exact absurd z1 (by decide)
                · have hnt : ¬ t = y := fun z => hyt z.symm
                  by_cases hyt2 : t + 1 ≤ y
                  · rw [hbits y hyt2, z1] at z2
                    simp [hnt] at z2
                  · have : y < t := by omega
                    rw [hgkM y z1]; simp [this]
              · rw [hm1ne h (by omega), hmM h hh c]
                by_cases hhH : h < H
                · exact ((x1.1 h hh).2.2 hhH).1 y hy3.1
                · rw [(x1.1 h hh).2.1 (by omega), Nat.zero_testBit] at hy3; exact absurd hy3.1 (by decide)
            · rcases q2 with q2 | ⟨y, q3, q4, q5⟩
              · rw [q2]; exact w6
              · exact (w5 y q4).2.2 h hh q5
          · rfl
        have hl0t : 0 < l0 t := by show 0 < put l t (l t + 1) t; rw [put_eq]; omega
        obtain ⟨σ4, u1, u2, u3⟩ := GW_hand (h := k) (t := t) w2 (by omega) ht hl0t
        rw [u1, q_bnd]
        have hYY : put Y0 k (Y0 k ||| 2 ^ t) = Y := by
          funext h
          by_cases e : h = k
          · subst e
            rw [put_eq, hY0k]
            apply e_ext (Nat.or_lt_two_pow (n := 8) (dN_lt a2 _) (p8_lt ht)) a2
            intro i _
            rw [Nat.testBit_or, t_dN a2, t_pow]
            by_cases ei : t = i
            · rw [← ei, hy]; simp
            · simp [ei]
          · rw [put_ne e, hY0ne h e]
        have hll : put l0 t (l0 t - 1) = l := by
          funext x
          by_cases e : x = t
          · subst e
            rw [put_eq]
            show put l x (l x + 1) x - 1 = _
            rw [put_eq]; omega
          · rw [put_ne e]; exact put_ne e
        rw [hYY, hll] at u2
        obtain ⟨σ', Y', m', l', z1, z2, z3, z4⟩ := e2_lessL hH hM hst hk hg256 hgF hgM t f σ4 Y m1 l (by omega) (by omega) u2 hA hl hYg (fun h hh => by rw [hm1ne h (by omega)]; exact hm0 h hh) (fun h hh hkh => by rw [hm1ne h (by omega)]; exact hmM h hh hkh) hm1k (fun x hx => by
          by_cases e : x = t
          · rw [e, hy, hgt]
          · exact hbits x (by omega))
        exact ⟨σ', Y', m', l', z1, fun c hc => by rw [z2 c hc, u3.1 c (by omega) (by omega) (by omega)]; exact fr3 c hc, by rw [z3, u3.2 0 (by omega)]; exact f03, z4⟩
      · rw [i_10]
        have hY3 : ∀ h, h < 8 → Y3 h < 256 := fun h hh => (w2.1 h hh).2.1
        have hYM : ∀ h, h < 8 → sb (Y h) (M h) := fun h hh => by
          by_cases hhH : h < H
          · exact ((hA.1 h hh).2.2 hhH).1
          · intro x hx
            rw [(hA.1 h hh).2.1 (by omega), Nat.zero_testBit] at hx; exact absurd hx (by decide)
        have hm1M : ∀ h, h < 8 → sb (m1 h) (M h) := fun h hh x hx => by
          rcases Nat.lt_trichotomy h k with c | c | c
          · rw [hm1ne h (by omega), hm0 h c, Nat.zero_testBit] at hx; exact absurd hx (by decide)
          · subst c
            rw [hm1k] at hx
            revert hx
            cases (M h).testBit x <;> simp
          · rw [hm1ne h (by omega), hmM h hh c] at hx; exact hx
        have hY0M : ∀ h, h < 8 → sb (Y0 h) (M h) := fun h hh => by
          by_cases e : h = k
          · rw [e, hY0k]; exact sb_trans (sb_dN a2) (hYM k (by omega))
          · rw [hY0ne h e]; exact hYM h hh
        have hA3 : AS H M nd st Y3 := by
          refine ⟨fun h hh => ⟨hY3 h hh, fun hhH => ?_, fun hhH => ⟨dN_sb (hY3 h hh) (w6 h hh) (hY0M h hh) (hm1M h hh), ?_⟩⟩, fun x hx => ?_⟩
          · have e1 := dN_sb (hY3 h hh) (w6 h hh) (hY0M h hh) (hm1M h hh)
            rw [(hM h hh).2 hhH] at e1
            apply Nat.eq_of_testBit_eq
            intro x
            rw [Nat.zero_testBit]
            cases q : (Y3 h).testBit x
            · rfl
            · have := e1 x q
              rw [Nat.zero_testBit] at this; exact absurd this (by decide)
          · rw [w5 h hh]
            by_cases e : h = k
            · rw [if_pos e, e, ← hpcY0]; exact ((hA.1 k (by omega)).2.2 hk).2
            · rw [if_neg e, hY0ne h e]; exact ((hA.1 h hh).2.2 hhH).2
          · have := w7 x hx
            have := hl0 x hx
            omega
        have hg3 : ∀ h, h < k → Y3 h = g h := fun h hh => by
          have e1 := w6 h (by omega)
          rw [hm1ne h (by omega), hm0 h hh, hY0ne h (by omega)] at e1
          have e2 : sb (Y3 h) (Y h) := fun x hx => by
            cases q : (Y h).testBit x
            · have := e1 x (by rw [t_dN (hY3 h (by omega)), hx, q]; rfl)
              rw [Nat.zero_testBit] at this; exact absurd this (by decide)
            · rfl
          have e3 := w5 h (by omega)
          rw [if_neg (by omega), hY0ne h (by omega)] at e3
          rw [sb_pc (hY3 h (by omega)) (hA.1 h (by omega)).1 e2 e3]; exact hYg h hh
        have hlow := low Y3 hA3 hg3
        have hsub : ∀ x, (Y3 k).testBit x = true → (x < t) ∨ (t + 1 ≤ x ∧ gk.testBit x = true) := fun x hx => by
          cases q : (Y0 k).testBit x
          · have := w6 k (by omega) x (by rw [t_dN (hY3 k (by omega)), hx, q]; rfl)
            rw [hm1k] at this
            left
            revert this
            cases (M k).testBit x <;> simp
          · rw [hY0k, t_dN a2, t_pow] at q
            by_cases e1 : x < t
            · exact .inl e1
            · by_cases e2 : t = x
              · simp [e2] at q
              · right
                refine ⟨by omega, ?_⟩
                rw [← hbits x (by omega)]
                revert q
                cases (Y k).testBit x <;> simp
        have heq : ∀ d x, x + d = 8 → t ≤ x → (∀ y, x ≤ y → (Y3 k).testBit y = gk.testBit y) := by
          intro d
          induction d with
          | zero =>
            intro x hx _ y hy2
            rw [t_hi (hY3 k (by omega)) (by omega), t_hi hg256 (by omega)]
          | succ d ihd =>
            intro x hx htx y hy2
            have ihd := ihd (x + 1) (by omega) (by omega)
            by_cases e : y = x
            · subst e
              cases q1 : (Y3 k).testBit y <;> cases q2 : gk.testBit y
              · rfl
              · have := lt_tb (i := y) q1 q2 (fun z hz => ihd z (by omega))
                omega
              · rcases hsub y q1 with c | ⟨c, c2⟩
                · omega
                · rw [q2] at c2; exact absurd c2 (by decide)
              · rfl
            · exact ihd y (by omega)
        obtain ⟨σ', Y', m', l', z1, z2, z3, z4⟩ := e2_lessL hH hM hst hk hg256 hgF hgM t f σ3 Y3 m1 l3 (by omega) (by omega) w2 hA3 (fun x hx => by rw [w7 x hx]; exact hl0 x hx) hg3 (fun h hh => by rw [hm1ne h (by omega)]; exact hm0 h hh) (fun h hh hkh => by rw [hm1ne h (by omega)]; exact hmM h hh hkh) hm1k (heq (8 - t) t (by omega) (Nat.le_refl t))
        exact ⟨σ', Y', m', l', z1, fun c hc => by rw [z2 c hc]; exact fr3 c hc, by rw [z3]; exact f03, z4⟩
    · have hy0 : (Y k).testBit t = false := by simpa using hy
      have hz : Y k &&& 2 ^ t = 0 := and_pow.mpr hy0
      rw [if_pos (k_z hz)]
      have hgt : gk.testBit t = false := by
        cases q : gk.testBit t
        · rfl
        · have := lt_tb (i := t) hy0 q (fun z hz => hbits z (by omega))
          have := low Y hA hYg
          omega
      obtain ⟨σ', Y', m', l', z1, z2, z3, z4⟩ := e2_lessL hH hM hst hk hg256 hgF hgM t f σ1 Y m1 l (by omega) (by omega) hG1 hA hl hYg (fun h hh => by rw [hm1ne h (by omega)]; exact hm0 h hh) (fun h hh hkh => by rw [hm1ne h (by omega)]; exact hmM h hh hkh) hm1k (fun x hx => by
        by_cases e : x = t
        · rw [e, hy0, hgt]
        · exact hbits x (by omega))
      exact ⟨σ', Y', m', l', z1, fun c hc => by rw [z2 c hc]; exact fr1 c (by omega), by rw [z3]; exact congrFun (fr1 106 (by omega)) 0, z4⟩
