/-! the class's place and frees -/
theorem pc_sb {a b : Nat} (h : sb a b) : pc a ≤ pc b := by
  unfold pc
  rw [cN_ws, cN_ws]
  exact ws_mono (fun i _ q => h i q)
theorem and_pow {a k : Nat} : a &&& 2 ^ k = 0 ↔ a.testBit k = false := by
  constructor
  · intro h
    have : (a &&& 2 ^ k).testBit k = false := by rw [h, Nat.zero_testBit]
    rw [Nat.testBit_and, t_pow] at this
    simpa using this
  · intro h
    apply Nat.eq_of_testBit_eq
    intro i
    rw [Nat.testBit_and, t_pow, Nat.zero_testBit]
    by_cases e : k = i
    · subst e; rw [h]; rfl
    · simp [e]
def CP (Y l : Nat → Nat) : Prop := ∀ x, x < 8 → l x + cnt Y x ≤ 500
/-- place, where u things are yet untried -/
def PLs (u : Nat) : Prop := ∀ (n d T h : Nat) (Y m l : Nat → Nat) (σ : z_M), GV Y m l T σ → CP Y l → 8 - pc T ≤ u → d + u ≤ 8 → 2 * u + 1 ≤ n → h < 8 → ∃ x σ' Y' l' T', (f2_pf n).1 (nI h) (nI d) σ = some (x, σ') ∧ GV Y' m l' T' σ' ∧ GF σ σ' ∧ sb T T' ∧ ((x = 0 ∧ Y' = Y ∧ l' = l ∧ QV Y m l T T' ∧ sb (dN (m h) (Y h)) T') ∨ (x = 1 ∧ SV1 Y m l Y' l' T (fun i => if i = h then 1 else 0)))
/-- frees, likewise -/
def FS (Y m l Y' l' : Nat → Nat) (T t : Nat) : Prop := (∀ h, h < 8 → pc (Y' h) = pc (Y h)) ∧ (∀ h, h < 8 → sb (dN (Y' h) (Y h)) (m h)) ∧ (∀ x, x < 8 → l' x + cnt Y' x = l x + cnt Y x) ∧ (∀ x, x < 8 → x ≠ t → T.testBit x = true → l' x = l x ∧ ∀ h, h < 8 → (Y' h).testBit x = (Y h).testBit x) ∧ 0 < l' t ∧ ∀ h, h < 8 → (Y' h).testBit t = true → (Y h).testBit t = true
theorem fr_loop {u n d T t : Nat} {Y m l : Nat → Nat} (ih : PLs u) (hC : CP Y l) (hTt : T.testBit t = true) (ht : t < 8) (hu : 8 - pc T ≤ u) (hd : d + 1 + u ≤ 8) (hn : 2 * u + 1 ≤ n) : ∀ (r k f Tk : Nat) (σ : z_M), k + r = 8 → r < f → GV Y m l Tk σ → sb T Tk → QV Y m l T Tk → (∀ h, h < k → (Y h).testBit t = true → sb (dN (m h) (Y h)) Tk) → ∃ x σ' Y' l' T', f2_freesB_L2 (f2_pf n).1 f (nI t) (nI d) (nI k) σ = some (x, σ') ∧ GV Y' m l' T' σ' ∧ GF σ σ' ∧ sb T T' ∧ ((x = 0 ∧ Y' = Y ∧ l' = l ∧ QV Y m l T T' ∧ ∀ h, h < 8 → (Y h).testBit t = true → sb (dN (m h) (Y h)) T') ∨ (x = 1 ∧ FS Y m l Y' l' T t))
  | 0, k, f, Tk, σ, h1, h2, hG, hs, hQ, hk => by
    obtain ⟨f, rfl⟩ : ∃ m, f = m + 1 := ⟨f - 1, by omega⟩
    refine ⟨0, σ, Y, l, Tk, ?_, hG, GF_refl σ, hs, .inl ⟨rfl, rfl, rfl, hQ, fun h hh => hk h (by omega)⟩⟩
    unfold f2_freesB_L2
    rw [l_8, if_neg (nI_nlt (by omega) (by omega))]
  | r + 1, k, f, Tk, σ, h1, h2, hG, hs, hQ, hk => by
    obtain ⟨f, rfl⟩ : ∃ m, f = m + 1 := ⟨f - 1, by omega⟩
    obtain ⟨a1, a2, a3, a4⟩ := hG.1 k (by omega)
    have hb : f2_freesB_L2 (f2_pf n).1 (f + 1) (nI t) (nI d) (nI k) σ = (if (if (Y k).testBit t = true then (1 : Int32) else 0) = 0 then f2_freesB_L2 (f2_pf n).1 f (nI t) (nI d) (nI (k + 1)) σ else z_bnd ((f2_pf n).1 (nI k) (nI (d + 1)) σ) fun r2 σ3 => if r2 = 0 then f2_freesB_L2 (f2_pf n).1 f (nI t) (nI d) (nI (k + 1)) σ3 else f2_freesB_J32 (f2_pf n).1 (nI t) (nI k) σ3) := by
      conv => lhs; unfold f2_freesB_L2
      rw [l_8, if_pos (nI_lt (by omega) (by omega)), k_cin _ (by omega) (by omega), q_ix (by omega), a1, k_bit _ a2 t ht, nI_1, nI_1]
    rw [hb]
    by_cases hy : (Y k).testBit t = true
    · rw [if_pos hy, i_10]
      obtain ⟨x, σ1, Y1, l1, T1, y1, y2, y3, y4, y5⟩ := ih n (d + 1) Tk k Y m l σ hG hC (by have := pc_sb hs; omega) (by omega) hn (by omega)
      rw [y1, q_bnd]
      rcases y5 with ⟨rfl, rfl, rfl, y6, y7⟩ | ⟨rfl, y6, y7, y8, y9⟩
      · rw [i_00]
        obtain ⟨x, σ2, Y2, l2, T2, w1, w2, w3, w4, w5⟩ := fr_loop ih hC hTt ht hu hd hn r (k + 1) f T1 σ1 (by omega) (by omega) y2 (sb_trans hs y4) (QV_trans hQ y6 y4) (fun h hh hyt => by
          by_cases e : h = k
          · rw [e]; exact y7
          · exact sb_trans (hk h (by omega) hyt) y4)
        exact ⟨x, σ2, Y2, l2, T2, w1, w2, GF_trans y3 w3, w4, w5⟩
      · rw [i_10]
        unfold f2_freesB_J32
        have hTk : Tk.testBit t = true := hs t hTt
        obtain ⟨z1, z2⟩ := y9 t ht hTk
        have hcap := y8 t ht
        have hct := hC t ht
        have hY1 : ∀ i, i < 8 → Y1 i < 256 := fun i hi => (y2.1 i hi).2.1
        obtain ⟨σ2, v1, v2, v3⟩ := GV_drop (h := k) (t := t) y2 (by omega) ht (by omega)
        have h1t : (Y1 k).testBit t = true := by rw [z2 k (by omega)]; exact hy
        rw [v1, q_bnd]
        refine ⟨1, σ2, _, _, T1, rfl, v2, GF_trans y3 v3, sb_trans hs y4, .inr ⟨rfl, fun h hh => ?_, fun h hh => ?_, fun x hx => ?_, fun x hx hxt hb => ?_, ?_, fun h hh q => ?_⟩⟩
        · have e6 := y6 h hh
          by_cases e : h = k
          · subst e
            have e6 : pc (Y1 h) = pc (Y h) + 1 := by rw [e6]; show _ + (if h = h then 1 else 0) = _; rw [if_pos rfl]
            have := pc_dN (hY1 h hh) ht h1t
            rw [put_eq]; omega
          · have e6 : pc (Y1 h) = pc (Y h) := by rw [e6]; show _ + (if h = k then 1 else 0) = _; rw [if_neg e, Nat.add_zero]
            rw [put_ne e, e6]
        · by_cases e : h = k
          · subst e
            rw [put_eq]
            intro x q
            apply y7 h hh x
            rw [t_dN (dN_lt (hY1 h hh) _), t_dN (hY1 h hh)] at q
            rw [t_dN (hY1 h hh)]
            revert q
            cases (Y1 h).testBit x <;> simp
          · rw [put_ne e]; exact y7 h hh
        · have e1 := cnt_put (Y := Y1) (h := k) (v := dN (Y1 k) (2 ^ t)) (x := x) (by omega)
          rw [t_dN (hY1 k (by omega)), t_pow] at e1
          have e3 := y8 x hx
          by_cases ex : x = t
          · subst ex
            rw [put_eq]
            rw [h1t] at e1
            simp at e1
            omega
          · rw [put_ne ex]
            have : ¬ t = x := fun q => ex q.symm
            simp [this] at e1
            omega
        · obtain ⟨q1, q2⟩ := y9 x hx (hs x hb)
          refine ⟨by rw [put_ne hxt]; exact q1, fun h hh => ?_⟩
          by_cases e : h = k
          · subst e
            have : ¬ t = x := fun q => hxt q.symm
            rw [put_eq, t_dN (hY1 h hh), t_pow, q2 h hh]
            simp [this]
          · rw [put_ne e]; exact q2 h hh
        · rw [put_eq]; omega
        · by_cases e : h = k
          · subst e; exact hy
          · rw [put_ne e, z2 h hh] at q; exact q
    · rw [if_neg hy, i_00]
      exact fr_loop ih hC hTt ht hu hd hn r (k + 1) f Tk σ (by omega) (by omega) hG hs hQ (fun h hh hyt => by
        by_cases e : h = k
        · rw [e] at hyt; exact absurd hyt hy
        · exact hk h (by omega) hyt)
theorem pl_loop {u n d T h : Nat} {Y m l : Nat → Nat} (ih : ∀ u', u = u' + 1 → PLs u') (hC : CP Y l) (hu : 8 - pc T ≤ u) (hd : d + u ≤ 8) (hn : 2 * u ≤ n) (hh : h < 8) : ∀ (r k f Tk : Nat) (σ : z_M), k + r = 8 → r < f → GV Y m l Tk σ → sb T Tk → QV Y m l T Tk → (∀ x, x < k → (dN (m h) (Y h)).testBit x = true → Tk.testBit x = true) → ∃ x σ' Y' l' T', f2_placeB_L10 (f2_pf n).2 f (nI h) (nI d) (nI k) σ = some (x, σ') ∧ GV Y' m l' T' σ' ∧ GF σ σ' ∧ sb T T' ∧ ((x = 0 ∧ Y' = Y ∧ l' = l ∧ QV Y m l T T' ∧ sb (dN (m h) (Y h)) T') ∨ (x = 1 ∧ SV1 Y m l Y' l' T (fun i => if i = h then 1 else 0)))
  | 0, k, f, Tk, σ, h1, h2, hG, hs, hQ, hk => by
    obtain ⟨f, rfl⟩ : ∃ m, f = m + 1 := ⟨f - 1, by omega⟩
    have hm := (hG.1 h hh).2.2.2
    refine ⟨0, σ, Y, l, Tk, ?_, hG, GF_refl σ, hs, .inl ⟨rfl, rfl, rfl, hQ, fun x hx => hk x (by have := t_bit8 (dN_lt hm _) hx; omega) hx⟩⟩
    unfold f2_placeB_L10
    rw [l_8, if_neg (nI_nlt (by omega) (by omega))]
  | r + 1, k, f, Tk, σ, h1, h2, hG, hs, hQ, hk => by
    obtain ⟨f, rfl⟩ : ∃ m, f = m + 1 := ⟨f - 1, by omega⟩
    obtain ⟨a1, a2, a3, a4⟩ := hG.1 h hh
    obtain ⟨b1, b2⟩ := hG.2.1 k (by omega)
    have c1 := hG.2.2.1
    have c2 := hG.2.2.2
    have hset : GV Y m l (Tk ||| 2 ^ k) (z_set σ 106 4 (nI (Tk ||| 2 ^ k))) := by
      refine ⟨fun i hi => ?_, fun x hx => ?_, s_eq, Nat.or_lt_two_pow (n := 8) c2 (p8_lt (by omega))⟩
      · rw [s_ne (by omega), s_ne (by omega)]; exact hG.1 i hi
      · rw [s_ne (by omega)]; exact hG.2.1 x hx
    have hGF : GF σ (z_set σ 106 4 (nI (Tk ||| 2 ^ k))) := ⟨fun c p _ _ => s_ne p, fun j p => s_kn p⟩
    have hbody : f2_placeB_L10 (f2_pf n).2 (f + 1) (nI h) (nI d) (nI k) σ = (if nI (dN (dN (m h) (Y h)) Tk &&& 2 ^ k) = 0 then f2_placeB_L10 (f2_pf n).2 f (nI h) (nI d) (nI (k + 1)) σ else if 0 < nI (l k) then f2_placeB_J78 (f2_pf n).2 (nI h) (nI k) (z_set σ 106 4 (nI (Tk ||| 2 ^ k))) else z_bnd ((f2_pf n).2 (nI k) (nI d) (z_set σ 106 4 (nI (Tk ||| 2 ^ k)))) fun r5 σ6 => if r5 = 0 then f2_placeB_L10 (f2_pf n).2 f (nI h) (nI d) (nI (k + 1)) σ6 else f2_placeB_J78 (f2_pf n).2 (nI h) (nI k) σ6) := by
      conv => lhs; unfold f2_placeB_L10
      rw [l_8, if_pos (nI_lt (by omega) (by omega)), k_cin _ hh (by omega), k_cin _ hh (by omega), q_ix (show h < 2 ^ 31 by omega), a1, a3, c1, k_dN a4, k_dN (dN_lt a4 _), k_shl k (by omega), k_and, k_or, q_let, k_cin _ (by omega) (by omega), q_ix (show k < 2 ^ 31 by omega), s_ne (show 109 ≠ 106 by omega), b1, nI_1]
    rw [hbody]
    have hbit : (dN (dN (m h) (Y h)) Tk).testBit k = ((m h).testBit k && !(Y h).testBit k && !Tk.testBit k) := by
      rw [t_dN (dN_lt a4 _), t_dN a4]
    have hlt : dN (dN (m h) (Y h)) Tk &&& 2 ^ k < 2 ^ 31 := Nat.lt_of_le_of_lt Nat.and_le_left (by have := dN_lt (dN_lt a4 (Y h)) Tk; omega)
    by_cases hc : (dN (dN (m h) (Y h)) Tk).testBit k = true
    · have hne : ¬ dN (dN (m h) (Y h)) Tk &&& 2 ^ k = 0 := fun q => by rw [and_pow.mp q] at hc; exact absurd hc (by decide)
      rw [if_neg (k_nz hne hlt)]
      rw [hbit] at hc
      have hc3 : (m h).testBit k = true ∧ (Y h).testBit k = false ∧ Tk.testBit k = false := by
        revert hc
        cases (m h).testBit k <;> cases (Y h).testBit k <;> cases Tk.testBit k <;> simp
      obtain ⟨d1, d2, d3⟩ := hc3
      have hpk := pc_or c2 (show k < 8 by omega) d3
      have hp8 := pc_le (Tk ||| 2 ^ k)
      have hps := pc_sb hs
      have hT0 : T.testBit k = false := by
        cases q : T.testBit k
        · rfl
        · rw [hs k q] at d3; exact absurd d3 (by decide)
      have hTk1 : sb Tk (Tk ||| 2 ^ k) := fun i hi => by rw [Nat.testBit_or, hi]; rfl
      have hY : ∀ i, i < 8 → Y i < 256 := fun i hi => (hG.1 i hi).2.1
      by_cases hl : 0 < l k
      · rw [if_pos (k_gt hl (by omega))]
        unfold f2_placeB_J78
        obtain ⟨σ2, v1, v2, v3⟩ := GV_hand (h := h) (t := k) hset hh (by omega) hl
        rw [v1, q_bnd]
        exact ⟨1, σ2, _, _, _, rfl, v2, GF_trans hGF v3, sb_trans hs hTk1, .inr ⟨rfl, SV_hand hY hY hh (by omega) (fun _ _ => rfl) (fun i hi x q => by
          rw [t_dN (hY i hi)] at q
          exfalso
          revert q
          cases (Y i).testBit x <;> simp) (fun _ _ => rfl) (fun _ _ _ => ⟨rfl, fun _ _ => rfl⟩) hT0 d1 d2 hl⟩⟩
      · rw [if_neg (k_ngt hl)]
        obtain ⟨u', hu'⟩ : ∃ u', u = u' + 1 := ⟨u - 1, by omega⟩
        obtain ⟨n', hn'⟩ : ∃ n', n = n' + 1 := ⟨n - 1, by omega⟩
        have hfr := fr_loop (n := n') (d := d) (T := Tk ||| 2 ^ k) (t := k) (m := m) (ih u' hu') hC (by rw [Nat.testBit_or, t_pow]; simp) (by omega) (by omega) (by omega) (by omega) 8 0 z_fu (Tk ||| 2 ^ k) (z_set σ 106 4 (nI (Tk ||| 2 ^ k))) (by omega) (by decide) hset (sb_refl _) (fun x p q => by rw [p] at q; exact absurd q (by decide)) (fun i hi => absurd hi (by omega))
        obtain ⟨x, σ1, Y1, l1, T1, y1, y2, y3, y4, y5⟩ := hfr
        have y1 : (f2_pf n).2 (nI k) (nI d) (z_set σ 106 4 (nI (Tk ||| 2 ^ k))) = some (x, σ1) := by
          rw [hn']; exact y1
        rw [y1, q_bnd]
        rcases y5 with ⟨rfl, rfl, rfl, y6, y7⟩ | ⟨rfl, y6, y7, y8, y9, y10, y11⟩
        · rw [i_00]
          have hQ2 : QV Y1 m l1 Tk T1 := by
            intro x p q
            by_cases ex : x = k
            · subst ex
              exact ⟨by omega, by omega, fun i hi hy => y7 i hi hy⟩
            · exact y6 x p (by
                rw [Nat.testBit_or, q, t_pow]
                have : ¬ k = x := fun q => ex q.symm
                simp [this])
          have hs2 := sb_trans hTk1 y4
          obtain ⟨x, σ2, Y2, l2, T2, w1, w2, w3, w4, w5⟩ := pl_loop ih hC hu hd hn hh r (k + 1) f T1 σ1 (by omega) (by omega) y2 (sb_trans hs hs2) (QV_trans hQ hQ2 hs2) (fun x hx hb => by
            by_cases ex : x = k
            · rw [ex]; exact y4 k (by rw [Nat.testBit_or, t_pow]; simp)
            · exact hs2 x (hk x (by omega) hb))
          exact ⟨x, σ2, Y2, l2, T2, w1, w2, GF_trans hGF (GF_trans y3 w3), w4, w5⟩
        · rw [i_10]
          unfold f2_placeB_J78
          obtain ⟨σ2, v1, v2, v3⟩ := GV_hand (h := h) (t := k) y2 hh (by omega) y10
          rw [v1, q_bnd]
          have hY1 : ∀ i, i < 8 → Y1 i < 256 := fun i hi => (y2.1 i hi).2.1
          exact ⟨1, σ2, _, _, _, rfl, v2, GF_trans hGF (GF_trans y3 v3), sb_trans hs (sb_trans hTk1 y4), .inr ⟨rfl, SV_hand hY hY1 hh (by omega) y6 y7 y8 (fun x hx hb => y9 x hx (fun q => by rw [q, hT0] at hb; exact absurd hb (by decide)) (hTk1 x (hs x hb))) hT0 d1 (by
            cases q : (Y1 h).testBit k
            · rfl
            · have := y11 h hh q; rw [d2] at this; exact absurd this (by decide)) y10⟩⟩
    · have hz : dN (dN (m h) (Y h)) Tk &&& 2 ^ k = 0 := and_pow.mpr (by simpa using hc)
      rw [if_pos (k_z hz)]
      exact pl_loop ih hC hu hd hn hh r (k + 1) f Tk σ (by omega) (by omega) hG hs hQ (fun x hx hb => by
        by_cases ex : x = k
        · rw [ex] at hb ⊢
          cases q : Tk.testBit k
          · exfalso
            apply hc
            rw [t_dN (dN_lt a4 _), hb, q]; rfl
          · rfl
        · exact hk x (by omega) hb)
theorem pl_all : ∀ u, PLs u := by
  intro u
  induction u with
  | zero =>
    intro n d T h Y m l σ hG hC hu hd hn hh
    obtain ⟨n', rfl⟩ : ∃ n', n = n' + 1 := ⟨n - 1, by omega⟩
    obtain ⟨x, σ', Y', l', T', y1, y2⟩ := pl_loop (u := 0) (n := n') (d := d) (T := T) (m := m) (fun u' q => absurd q (by omega)) hC hu hd (by omega) hh 8 0 z_fu T σ (by omega) (by decide) hG (sb_refl T) (fun x p q => by rw [p] at q; exact absurd q (by decide)) (fun x hx => absurd hx (by omega))
    refine ⟨x, σ', Y', l', T', ?_, y2⟩
    show f2_placeB (f2_pf n').2 (nI h) (nI d) σ = _
    have : ¬ (8 : Int32) < nI d := nI_nlt (a := 8) (by omega) (by omega)
    unfold f2_placeB
    rw [if_neg this]; exact y1
  | succ u ihu =>
    intro n d T h Y m l σ hG hC hu hd hn hh
    obtain ⟨n', rfl⟩ : ∃ n', n = n' + 1 := ⟨n - 1, by omega⟩
    obtain ⟨x, σ', Y', l', T', y1, y2⟩ := pl_loop (u := u + 1) (n := n') (d := d) (T := T) (m := m) (fun u' q => by
      have : u' = u := by omega
      rw [this]; exact ihu) hC hu hd (by omega) hh 8 0 z_fu T σ (by omega) (by decide) hG (sb_refl T) (fun x p q => by rw [p] at q; exact absurd q (by decide)) (fun x hx => absurd hx (by omega))
    refine ⟨x, σ', Y', l', T', ?_, y2⟩
    show f2_placeB (f2_pf n').2 (nI h) (nI d) σ = _
    have : ¬ (8 : Int32) < nI d := nI_nlt (a := 8) (by omega) (by omega)
    unfold f2_placeB
    rw [if_neg this]; exact y1
/-- place, called anew -/
theorem e2_place {Y m l : Nat → Nat} {h : Nat} {σ : z_M} (hG : GW Y m l σ) (hC : CP Y l) (hh : h < 8) : ∃ x σ' Y' l' T', f2_place (nI h) 0 (z_set σ 106 4 0) = some (x, σ') ∧ GW Y' m l' σ' ∧ GF σ σ' ∧ ((x = 0 ∧ Y' = Y ∧ l' = l ∧ (∀ x, T'.testBit x = true → x < 8 ∧ l x = 0 ∧ ∀ h, h < 8 → (Y h).testBit x = true → sb (dN (m h) (Y h)) T') ∧ sb (dN (m h) (Y h)) T') ∨ (x = 1 ∧ (∀ i, i < 8 → pc (Y' i) = pc (Y i) + if i = h then 1 else 0) ∧ (∀ i, i < 8 → sb (dN (Y' i) (Y i)) (m i)) ∧ ∀ x, x < 8 → l' x + cnt Y' x = l x + cnt Y x)) := by
  have hG0 : GV Y m l 0 (z_set σ 106 4 0) := ⟨fun i hi => by rw [s_ne (by omega), s_ne (by omega)]; exact hG.1 i hi, fun x hx => by rw [s_ne (by omega)]; exact hG.2 x hx, s_eq, by omega⟩
  obtain ⟨x, σ', Y', l', T', y1, y2, y3, -, y5⟩ := pl_all 8 20 0 0 h Y m l _ hG0 hC (by omega) (by omega) (by omega) hh
  refine ⟨x, σ', Y', l', T', y1, ⟨y2.1, y2.2.1⟩, GF_trans ⟨fun c p _ _ => s_ne p, fun j p => s_kn p⟩ y3, ?_⟩
  rcases y5 with ⟨a, b, c, d, e⟩ | ⟨a, b, c, d, -⟩
  · exact .inl ⟨a, b, c, fun x hx => d x hx (Nat.zero_testBit x), e⟩
  · exact .inr ⟨a, b, c, d⟩
