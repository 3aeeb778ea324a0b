/-! the reference gets one more; all of them -/
theorem e12_walk {H fi fr : Nat} {M Y l' l rk : Nat → Nat} {τr : z_M} (hH : H ≤ 8) (hfr : fr < H) (hff : fi ≤ fr) (hM : ∀ h, h < 8 → M h < 256) (hY : ∀ h, h < 8 → Y h < 256) (hT : TRe H fi fr M Y rk τr) : ∀ (R o n x : Nat) (Yc : Nat → Nat) (τ : z_M), rk o ≤ R → R < n → o < H → τr 26 o ≠ -1 → (∀ c, c ≠ 24 → τ c = τr c) → (∀ h, h < H → τ 24 h = nI (Yc h)) → (∀ h, h < 8 → Yc h < 256) → (∀ i, i < H → rk i ≤ rk o → τr 26 i ≠ -1 → Yc i = Y i) → x < 8 → (dN (M o) (Y o)).testBit x = true → (∀ h, h < 8 → pc (Yc h) = pc (Y h)) → (∀ h, h < 8 → sb (dN (Yc h) (Y h)) (M h)) → (∀ y, y < 8 → l' y + cnt Yc y + (if y = x then 1 else 0) = l y + cnt Y y) → (∀ h, h < fi ∨ H ≤ h → Yc h = Y h) → ∃ τ' Y', f12_getsOne_L43 n (nI fr) (nI o) (nI (2 ^ x)) τ = some (1, τ') ∧ (∀ c, c ≠ 24 → τ' c = τr c) ∧ (∀ h, h < H → τ' 24 h = nI (Y' h)) ∧ (∀ h, h < 8 → Y' h < 256) ∧ (∀ h, h < 8 → pc (Y' h) = pc (Y h) + if h = fr then 1 else 0) ∧ (∀ h, h < 8 → sb (dN (Y' h) (Y h)) (M h)) ∧ (∀ y, y < 8 → l' y + cnt Y' y = l y + cnt Y y) ∧ ∀ h, h < fi ∨ H ≤ h → Y' h = Y h := by
  intro R
  induction R with
  | zero =>
    intro o n x Yc τ hrk hn ho hor hf h24 h256 hsame hx hxb hsz hsb hcn hlow
    obtain ⟨n, rfl⟩ : ∃ m, n = m + 1 := ⟨n - 1, by omega⟩
    obtain ⟨-, c2⟩ := hT.2.2 o ho hor
    rcases c2 with c2 | ⟨-, p, j, -, -, -, -, d5, -⟩
    · subst c2
      have hYo : Yc o = Y o := hsame o ho (Nat.le_refl _) hor
      have hxn : (Y o).testBit x = false := by
        rw [t_dN (hM o (by omega))] at hxb
        revert hxb
        cases (M o).testBit x <;> cases (Y o).testBit x <;> simp
      have hxM : (M o).testBit x = true := sb_dN (hM o (by omega)) x hxb
      refine ⟨z_set τ 24 o (nI (Y o ||| 2 ^ x)), put Yc o (Y o ||| 2 ^ x), ?_, fun c hc => by rw [s_ne hc]; exact hf c hc, fun h hh => ?_, fun h hh => ?_, fun h hh => ?_, fun h hh => ?_, fun y hy => ?_, fun h hh => ?_⟩
      · unfold f12_getsOne_L43 f12_getsOne_J90
        rw [if_pos rfl, k_cin _ (by omega) (by omega), k_cin _ (by omega) (by omega), q_ix (by omega), h24 o ho, hYo, k_or, q_let]
      · by_cases e : h = o
        · rw [e, s_eq, put_eq]
        · rw [s_kn e, put_ne e]; exact h24 h hh
      · by_cases e : h = o
        · rw [e, put_eq]; exact Nat.or_lt_two_pow (n := 8) (hY o (by omega)) (p8_lt hx)
        · rw [put_ne e]; exact h256 h hh
      · by_cases e : h = o
        · rw [e, put_eq, if_pos rfl, pc_or (hY o (by omega)) hx hxn]
        · rw [put_ne e, if_neg e, hsz h hh, Nat.add_zero]
      · by_cases e : h = o
        · rw [e, put_eq]
          intro y q
          rw [t_dN (Nat.or_lt_two_pow (n := 8) (hY o (by omega)) (p8_lt hx)), Nat.testBit_or, t_pow] at q
          by_cases ey : x = y
          · rw [← ey]; exact hxM
          · exfalso; revert q; cases (Y o).testBit y <;> simp [ey]
        · rw [put_ne e]; exact hsb h hh
      · have e1 := cnt_put (Y := Yc) (h := o) (v := Y o ||| 2 ^ x) (x := y) (by omega)
        rw [Nat.testBit_or, t_pow, hYo] at e1
        have e3 := hcn y hy
        by_cases ey : y = x
        · subst ey
          rw [hxn] at e1
          simp at e1
          rw [if_pos rfl] at e3
          omega
        · have : ¬ x = y := fun q => ey q.symm
          simp [this] at e1
          rw [if_neg ey] at e3
          omega
      · rw [put_ne (by omega)]; exact hlow h hh
    · omega
  | succ R ih =>
    intro o n x Yc τ hrk hn ho hor hf h24 h256 hsame hx hxb hsz hsb hcn hlow
    obtain ⟨n, rfl⟩ : ∃ m, n = m + 1 := ⟨n - 1, by omega⟩
    obtain ⟨-, c2⟩ := hT.2.2 o ho hor
    have hYo : Yc o = Y o := hsame o ho (Nat.le_refl _) hor
    have hxn : (Y o).testBit x = false := by
      rw [t_dN (hM o (by omega))] at hxb
      revert hxb
      cases (M o).testBit x <;> cases (Y o).testBit x <;> simp
    have hxM : (M o).testBit x = true := sb_dN (hM o (by omega)) x hxb
    by_cases hofr : o = fr
    · have hr0 : rk o = 0 := by rw [hofr]; exact hT.2.1
      subst hofr
      refine ⟨z_set τ 24 o (nI (Y o ||| 2 ^ x)), put Yc o (Y o ||| 2 ^ x), ?_, fun c hc => by rw [s_ne hc]; exact hf c hc, fun h hh => ?_, fun h hh => ?_, fun h hh => ?_, fun h hh => ?_, fun y hy => ?_, fun h hh => ?_⟩
      · unfold f12_getsOne_L43 f12_getsOne_J90
        rw [if_pos rfl, k_cin _ (by omega) (by omega), k_cin _ (by omega) (by omega), q_ix (by omega), h24 o ho, hYo, k_or, q_let]
      · by_cases e : h = o
        · rw [e, s_eq, put_eq]
        · rw [s_kn e, put_ne e]; exact h24 h hh
      · by_cases e : h = o
        · rw [e, put_eq]; exact Nat.or_lt_two_pow (n := 8) (hY o (by omega)) (p8_lt hx)
        · rw [put_ne e]; exact h256 h hh
      · by_cases e : h = o
        · rw [e, put_eq, if_pos rfl, pc_or (hY o (by omega)) hx hxn]
        · rw [put_ne e, if_neg e, hsz h hh, Nat.add_zero]
      · by_cases e : h = o
        · rw [e, put_eq]
          intro y q
          rw [t_dN (Nat.or_lt_two_pow (n := 8) (hY o (by omega)) (p8_lt hx)), Nat.testBit_or, t_pow] at q
          by_cases ey : x = y
          · rw [← ey]; exact hxM
          · exfalso; revert q; cases (Y o).testBit y <;> simp [ey]
        · rw [put_ne e]; exact hsb h hh
      · have e1 := cnt_put (Y := Yc) (h := o) (v := Y o ||| 2 ^ x) (x := y) (by omega)
        rw [Nat.testBit_or, t_pow, hYo] at e1
        have e3 := hcn y hy
        by_cases ey : y = x
        · subst ey
          rw [hxn] at e1
          simp at e1
          rw [if_pos rfl] at e3
          omega
        · have : ¬ x = y := fun q => ey q.symm
          simp [this] at e1
          rw [if_neg ey] at e3
          omega
      · rw [put_ne (by omega)]; exact hlow h hh
    · rcases c2 with c2 | ⟨c2, p, j, d1, d2, d3, d4, d5, d6, d7, d8⟩
      · exact absurd c2 hofr
      · have hjx : j ≠ x := fun q => by rw [q, hxn] at d8; exact absurd d8 (by decide)
        let v := dN (Y o) (2 ^ j) ||| 2 ^ x
        have hv : v < 256 := Nat.or_lt_two_pow (n := 8) (dN_lt (hY o (by omega)) _) (p8_lt hx)
        have hvb : ∀ y, v.testBit y = ((Y o).testBit y && !decide (j = y) || decide (x = y)) := fun y => by
          show (dN (Y o) (2 ^ j) ||| 2 ^ x).testBit y = _
          rw [Nat.testBit_or, t_dN (hY o (by omega)), t_pow, t_pow]
        have hpcv : pc v = pc (Y o) := by
          have e1 := pc_dN (hY o (by omega)) d2 d8
          have e2 := pc_or (s := dN (Y o) (2 ^ j)) (dN_lt (hY o (by omega)) _) hx (by rw [t_dN (hY o (by omega)), hxn]; rfl)
          show pc (dN (Y o) (2 ^ j) ||| 2 ^ x) = _
          omega
        have hstep : f12_getsOne_L43 (n + 1) (nI fr) (nI o) (nI (2 ^ x)) τ = f12_getsOne_L43 n (nI fr) (nI p) (nI (2 ^ j)) (z_set τ 24 o (nI v)) := by
          conv => lhs; unfold f12_getsOne_L43
          rw [if_neg (by rw [nI_eq (by omega) (by omega)]; exact hofr), q_ix (show o < 2 ^ 31 by omega), h24 o ho, hYo, hf 27 (by omega), d6, k_dN (hY o (by omega)), k_or]
          simp (disch := omega) only [k_cin, q_let]
          rw [s_ne (by omega), hf 26 (by omega), d3]
        obtain ⟨τ', Y', y1, y2⟩ := ih p n j (put Yc o v) (z_set τ 24 o (nI v)) (by omega) (by omega) d1 d4 (fun c hc => by rw [s_ne hc]; exact hf c hc) (fun h hh => by
          by_cases e : h = o
          · rw [e, s_eq, put_eq]
          · rw [s_kn e, put_ne e]; exact h24 h hh) (fun h hh => by
          by_cases e : h = o
          · rw [e, put_eq]; exact hv
          · rw [put_ne e]; exact h256 h hh) (fun i hi hri hir => by
          have e : i ≠ o := fun q => by rw [q] at hri; omega
          rw [put_ne e]; exact hsame i hi (by omega) hir) d2 d7 (fun h hh => by
          by_cases e : h = o
          · rw [e, put_eq]; exact hpcv
          · rw [put_ne e]; exact hsz h hh) (fun h hh => by
          by_cases e : h = o
          · rw [e, put_eq]
            intro y q
            rw [t_dN hv, hvb] at q
            by_cases ey : x = y
            · rw [← ey]; exact hxM
            · exfalso; revert q; cases (Y o).testBit y <;> simp [ey]
          · rw [put_ne e]; exact hsb h hh) (fun y hy => by
          have e1 := cnt_put (Y := Yc) (h := o) (v := v) (x := y) (by omega)
          rw [hvb, hYo] at e1
          have e3 := hcn y hy
          by_cases ey : y = x
          · subst ey
            rw [hxn] at e1
            rw [if_neg (fun q => hjx q.symm)]
            rw [if_pos rfl] at e3
            simp at e1
            omega
          · have nx : ¬ x = y := fun q => ey q.symm
            rw [if_neg ey] at e3
            by_cases ej : y = j
            · subst ej
              rw [if_pos rfl]
              rw [d8] at e1
              simp [nx] at e1
              omega
            · have nj : ¬ j = y := fun q => ej q.symm
              rw [if_neg ej]
              simp [nx, nj] at e1
              omega) (fun h hh => by
          rw [put_ne (by omega)]; exact hlow h hh)
        exact ⟨τ', Y', hstep.trans y1, y2⟩
/-- getsOne -/
theorem e12_gets {H fi fr : Nat} {M Y l : Nat → Nat} {τ : z_M} (hH : H ≤ 8) (hR : RV H M Y l τ) (hM : ∀ h, h < 8 → M h < 256) (hfr : fr < H) (hff : fi ≤ fr) (hY0 : ∀ h, h < 8 → h < fi ∨ H ≤ h → Y h = 0) : (∃ τ', f12_getsOne (nI fi) (nI fr) τ = some (0, τ') ∧ RF τ τ' ∧ ∀ X : Nat → Nat, (∀ h, h < 8 → X h < 256) → (∀ h, h < 8 → pc (Y h) + (if h = fr then 1 else 0) ≤ pc (X h)) → (∀ h, h < 8 → sb (dN (X h) (Y h)) (M h)) → (∀ x, x < 8 → cnt X x ≤ l x + cnt Y x) → False) ∨ ∃ τ' Y' l', f12_getsOne (nI fi) (nI fr) τ = some (1, τ') ∧ (∀ c, c ≠ 24 → c ≠ 25 → c ≠ 26 → c ≠ 27 → τ' c = τ c) ∧ RV H M Y' l' τ' ∧ (∀ h, h < 8 → Y' h < 256) ∧ (∀ h, h < 8 → pc (Y' h) = pc (Y h) + if h = fr then 1 else 0) ∧ (∀ h, h < 8 → sb (dN (Y' h) (Y h)) (M h)) ∧ (∀ x, x < 8 → l' x + cnt Y' x = l x + cnt Y x) ∧ ∀ h, h < 8 → h < fi ∨ H ≤ h → Y' h = 0 := by
  have hY : ∀ h, h < 8 → Y h < 256 := fun h hh => by
    by_cases e : h < H
    · exact (hR.1 h e).2.2.2
    · rw [hY0 h hh (.inr (by omega))]; omega
  rcases e12_reaches hH hR hfr (show fi ≤ H by omega) with ⟨h, τ1, rk, x, h1, h2, h3, h4, h5, h6, h7, h8, h9⟩ | ⟨τ1, rk, h3, h4, h5, h6⟩
  · right
    have hR1 := RV_cong hR h4
    obtain ⟨b1, b2⟩ := hR1.2.1 x h2
    let l' := put l x (l x - 1)
    obtain ⟨τ', Y', y1, y2, y3, y4, y5, y6, y7, y8⟩ := e12_walk (l' := l') (l := l) (τr := z_set τ1 25 x (nI (l x - 1))) hH hfr hff hM hY (rk := rk) (by
      obtain ⟨t1, t2, t3⟩ := h5
      have e26 : z_set τ1 25 x (nI (l x - 1)) 26 = τ1 26 := s_ne (by omega)
      have e27 : z_set τ1 25 x (nI (l x - 1)) 27 = τ1 27 := s_ne (by omega)
      have ec : cR H (z_set τ1 25 x (nI (l x - 1))) = cR H τ1 := by unfold cR; rw [e26]
      unfold TRe
      rw [e26, e27, ec]
      exact ⟨t1, t2, t3⟩) 900 h z_fu x Y (z_set τ1 25 x (nI (l x - 1))) (by
      have := (h5.2.2 h h1 h6).1
      have h8 : cR H τ1 ≤ H := cN_le _ H
      omega) (by decide) h1 (by rw [s_ne (by omega)]; exact h6) (fun _ _ => rfl) (fun i hi => by rw [s_ne (by omega)]; exact (hR1.1 i hi).2.2.1) hY (fun _ _ _ _ => rfl) h2 h7 (fun _ _ => rfl) (fun i hi y q => by
      rw [t_dN (hY i hi)] at q
      exfalso; revert q; cases (Y i).testBit y <;> simp) (fun y hy => by
      show put l x (l x - 1) y + _ + _ = _
      by_cases e : y = x
      · rw [e, put_eq, if_pos rfl]; omega
      · rw [put_ne e, if_neg e, Nat.add_zero]) (fun _ _ => rfl)
    refine ⟨τ', Y', l', ?_, fun c a b d e => ?_, ⟨fun i hi => ?_, fun y hy => ?_, ?_⟩, y4, y5, y6, y7, fun i hi q => by rw [y8 i q]; exact hY0 i hi q⟩
    · unfold f12_getsOne
      rw [h3, q_bnd, if_neg (q_neg (by omega)), h9, q_bnd, k_cin _ h2 (by omega), k_cin _ h2 (by omega), q_ix (by omega), b1, show nI (l x) - 1 = nI (l x - 1) from by rw [l_1, pk_sub (by omega)], q_let, k_shl x (by omega)]
      exact y1
    · rw [y2 c a, s_ne b]; exact h4 c d e
    · rw [y2 22 (by omega), s_ne (by omega)]
      exact ⟨(hR1.1 i hi).1, (hR1.1 i hi).2.1, y3 i hi, y4 i (by omega)⟩
    · rw [y2 25 (by omega)]
      show z_set τ1 25 x (nI (l x - 1)) 25 y = nI (put l x (l x - 1) y) ∧ put l x (l x - 1) y ≤ 1000
      by_cases e : y = x
      · rw [e, s_eq, put_eq]; exact ⟨rfl, by omega⟩
      · rw [s_kn e, put_ne e]; exact hR1.2.1 y hy
    · rw [y2 0 (by omega), s_ne (by omega)]; exact hR1.2.2
  · left
    refine ⟨τ1, ?_, h4, fun X x1 x2 x3 x4 => ?_⟩
    · unfold f12_getsOne
      rw [h3, q_bnd, if_pos rfl]
    · let T := bN (fun x => decide (∃ h, h < H ∧ τ1 26 h ≠ -1 ∧ (dN (M h) (Y h)).testBit x = true)) 8
      have hTb : ∀ x, T.testBit x = true ↔ x < 8 ∧ ∃ h, h < H ∧ τ1 26 h ≠ -1 ∧ (dN (M h) (Y h)).testBit x = true := fun x => by
        show (bN _ 8).testBit x = true ↔ _
        rw [bN_bit]
        simp
      refine no_more (Y := Y) (X := X) (m := M) (l := l) (T := T) (h0 := fr) x1 hM (by omega) x2 x3 x4 (fun x hx q => ?_) (fun h hh q => ?_)
      · obtain ⟨-, i, i1, i2, i3⟩ := (hTb x).mp q
        exact (h6 i i1 i2).1 x hx i3
      · have hreach : h < H ∧ τ1 26 h ≠ -1 := by
          rcases q with q | ⟨x, q1, q2, q3⟩
          · rw [q]; exact ⟨hfr, by rw [h5.1]; exact q_neg (by omega)⟩
          · have hhH : h < H := by
              rcases Nat.lt_or_ge h H with c | c
              · exact c
              · rw [hY0 h hh (.inr c), Nat.zero_testBit] at q3; exact absurd q3 (by decide)
            have hfih : fi ≤ h := by
              rcases Nat.lt_or_ge h fi with c | c
              · rw [hY0 h hh (.inl c), Nat.zero_testBit] at q3; exact absurd q3 (by decide)
              · exact c
            refine ⟨hhH, fun c => ?_⟩
            obtain ⟨-, i, i1, i2, i3⟩ := (hTb x).mp q2
            have z := (h6 i i1 i2).2 h hfih hhH c
            have : (dN (M i) (Y i) &&& Y h).testBit x = true := by rw [Nat.testBit_and, i3, q3]; rfl
            rw [z, Nat.zero_testBit] at this
            exact absurd this (by decide)
        intro x hx
        exact (hTb x).mpr ⟨t_bit8 (dN_lt (hM h hh) _) hx, h, hreach.1, hreach.2, hx⟩
/-- the rest of the houses, from fi on -/
def AS1 (H fi : Nat) (M nd ls X : Nat → Nat) : Prop := (∀ h, h < 8 → X h < 256 ∧ (h < fi ∨ H ≤ h → X h = 0) ∧ (fi ≤ h → h < H → sb (X h) (M h) ∧ pc (X h) = nd h)) ∧ ∀ x, x < 8 → cnt X x ≤ ls x
/-- the state while they get theirs -/
def RS1 (H fi : Nat) (M nd ls Y l : Nat → Nat) (τ : z_M) : Prop := RV H M Y l τ ∧ (∀ h, h < 8 → h < fi ∨ H ≤ h → Y h = 0) ∧ (∀ h, h < 8 → sb (Y h) (M h)) ∧ (∀ x, x < 8 → l x + cnt Y x = ls x) ∧ ∀ h, h < H → τ 23 h = nI (nd h)
theorem e12_zero {H fi : Nat} {nd : Nat → Nat} (hH : H ≤ 8) : ∀ (r h n : Nat) (τ : z_M), h + r = H → r < n → τ 0 6 = nI H → (∀ i, i < H → τ 23 i = nI (nd i)) → (∀ i, i < H → nd i ≤ 8) → ∃ τ', f12_canAll_L4 n (nI fi) 0 (nI h) τ = some (0, τ') ∧ ∀ c, c ≠ 24 → τ' c = τ c
  | 0, h, n, τ, h1, h2, eh, en, hn => by
    obtain ⟨n, rfl⟩ : ∃ m, n = m + 1 := ⟨n - 1, by omega⟩
    refine ⟨τ, ?_, fun _ _ => rfl⟩
    unfold f12_canAll_L4
    rw [eh, if_neg (nI_nlt (by omega) (by omega)), q_chk _ (by decide)]
  | r + 1, h, n, τ, h1, h2, eh, en, hn => by
    obtain ⟨n, rfl⟩ : ∃ m, n = m + 1 := ⟨n - 1, by omega⟩
    obtain ⟨τ', y1, y2⟩ := e12_zero (fi := fi) (nd := nd) hH r (h + 1) n (z_set τ 24 h 0) (by omega) (by omega) (by rw [s_ne (by omega)]; exact eh) (fun i hi => by rw [s_ne (by omega)]; exact en i hi) hn
    refine ⟨τ', ?_, fun c hc => by rw [y2 c hc, s_ne hc]⟩
    conv => lhs; unfold f12_canAll_L4
    rw [eh, if_pos (nI_lt (by omega) (by omega)), k_cin _ (by omega) (by omega), q_ix (by omega), q_let]
    have : f12_canAll_L22 (f12_canAll_L4 n) z_fu (nI fi) 0 (nI h) 0 (z_set τ 24 h 0) = f12_canAll_L4 n (nI fi) 0 (nI (h + 1)) (z_set τ 24 h 0) := by
      show f12_canAll_L22 (f12_canAll_L4 n) (999 + 1) (nI fi) 0 (nI h) 0 (z_set τ 24 h 0) = _
      conv => lhs; unfold f12_canAll_L22
      unfold f12_canAll_J50
      rw [k_cin _ (by omega) (by omega), nI_1, i_00]
      split <;> rfl
    rw [this]; exact y1
theorem e12_cL22 {H fi h : Nat} {M nd ls : Nat → Nat} (hH : H ≤ 8) (hM : ∀ h, h < 8 → M h < 256) (hnd : ∀ i, i < H → nd i ≤ 8) (hhH : h < H) (hfh : fi ≤ h) (hls : ∀ x, x < 8 → ls x ≤ 5) (K : Int32 → Int32 → Int32 → z_M → Option (Int32 × z_M)) : ∀ (r k n : Nat) (τ : z_M) (Y l : Nat → Nat), k + r = nd h → r + 1 < n → RS1 H fi M nd ls Y l τ → (∀ j, j < 8 → pc (Y j) = if fi ≤ j ∧ j < h then nd j else if j = h then k else 0) → (∃ τ', f12_canAll_L22 K n (nI fi) 1 (nI h) (nI k) τ = K (nI fi) 0 (nI (h + 1)) τ' ∧ (∀ c, c ≠ 24 → c ≠ 25 → c ≠ 26 → c ≠ 27 → τ' c = τ c) ∧ ∀ X, ¬ AS1 H fi M nd ls X) ∨ ∃ τ' Y' l', f12_canAll_L22 K n (nI fi) 1 (nI h) (nI k) τ = K (nI fi) 1 (nI (h + 1)) τ' ∧ (∀ c, c ≠ 24 → c ≠ 25 → c ≠ 26 → c ≠ 27 → τ' c = τ c) ∧ RS1 H fi M nd ls Y' l' τ' ∧ ∀ j, j < 8 → pc (Y' j) = if fi ≤ j ∧ j < h + 1 then nd j else 0
  | 0, k, n, τ, Y, l, h1, h2, hS, hp => by
    obtain ⟨n, rfl⟩ : ∃ m, n = m + 1 := ⟨n - 1, by omega⟩
    right
    have hn8 := hnd h hhH
    refine ⟨τ, Y, l, ?_, fun _ _ _ _ _ => rfl, hS, fun j hj => ?_⟩
    · unfold f12_canAll_L22 f12_canAll_J50
      rw [k_cin _ (by omega) (by omega), q_ix (by omega), hS.2.2.2.2 h hhH, if_neg (nI_nlt (by omega) (by omega)), nI_1]
    · rw [hp j hj]
      by_cases e1 : fi ≤ j ∧ j < h
      · rw [if_pos e1, if_pos (by omega)]
      · by_cases e2 : j = h
        · rw [if_neg e1, if_pos e2, if_pos (by omega), e2]; omega
        · rw [if_neg e1, if_neg e2, if_neg (by omega)]
  | r + 1, k, n, τ, Y, l, h1, h2, hS, hp => by
    obtain ⟨n, rfl⟩ : ∃ m, n = m + 2 := ⟨n - 2, by omega⟩
    have hn8 := hnd h hhH
    obtain ⟨s1, s2, s3, s4, s5⟩ := hS
    have hb : ∀ x τ', f12_getsOne (nI fi) (nI h) τ = some (x, τ') → f12_canAll_L22 K (n + 2) (nI fi) 1 (nI h) (nI k) τ = f12_canAll_L22 K (n + 1) (nI fi) x (nI h) (nI (k + 1)) τ' := by
      intro x τ' e
      conv => lhs; unfold f12_canAll_L22
      rw [k_cin _ (by omega) (by omega), q_ix (by omega), s5 h hhH, if_pos (nI_lt (by omega) (by omega)), i_10, e, q_bnd, nI_1]
    rcases e12_gets hH s1 hM hhH hfh s2 with ⟨τ1, z1, z2, z3⟩ | ⟨τ1, Y1, l1, z1, z2, z3, z4, z5, z6, z7, z8⟩
    · left
      refine ⟨τ1, ?_, fun c _ _ a b => z2 c a b, fun X hX => ?_⟩
      · rw [hb 0 τ1 z1]
        conv => lhs; unfold f12_canAll_L22
        unfold f12_canAll_J50
        rw [k_cin _ (by omega) (by omega), nI_1, i_00]
        split <;> rfl
      · refine z3 X (fun j hj => (hX.1 j hj).1) (fun j hj => ?_) (fun j hj x q => ?_) (fun x hx => by rw [s4 x hx]; exact hX.2 x hx)
        · rw [hp j hj]
          by_cases e1 : fi ≤ j ∧ j < h
          · rw [if_pos e1, if_neg (by omega), ((hX.1 j hj).2.2 e1.1 (by omega)).2]; omega
          · by_cases e2 : j = h
            · rw [if_neg e1, if_pos e2, if_pos e2, e2, ((hX.1 h (by omega)).2.2 hfh hhH).2]; omega
            · rw [if_neg e1, if_neg e2, if_neg e2]; omega
        · have hxj : (X j).testBit x = true := sb_dN (hX.1 j hj).1 x q
          by_cases hc : fi ≤ j ∧ j < H
          · exact ((hX.1 j hj).2.2 hc.1 hc.2).1 x hxj
          · rw [(hX.1 j hj).2.1 (by omega), Nat.zero_testBit] at hxj; exact absurd hxj (by decide)
    · rw [hb 1 τ1 z1]
      have hS1 : RS1 H fi M nd ls Y1 l1 τ1 := ⟨z3, z8, fun j hj => dN_sb (z4 j hj) (z6 j hj) (s3 j hj) (sb_refl _), fun x hx => by rw [z7 x hx]; exact s4 x hx, fun i hi => by rw [z2 23 (by omega) (by omega) (by omega) (by omega)]; exact s5 i hi⟩
      have ih := e12_cL22 hH hM hnd hhH hfh hls K r (k + 1) (n + 1) τ1 Y1 l1 (by omega) (by omega) hS1 (fun j hj => by
        rw [z5 j hj, hp j hj]
        by_cases e1 : fi ≤ j ∧ j < h
        · rw [if_pos e1, if_pos e1, if_neg (by omega)]; omega
        · by_cases e2 : j = h
          · rw [if_neg e1, if_pos e2, if_pos e2, if_neg e1, if_pos e2]
          · rw [if_neg e1, if_neg e2, if_neg e2, if_neg e1, if_neg e2])
      rcases ih with ⟨τ', y1, y2, y3⟩ | ⟨τ', Y', l', y1, y2, y3, y4⟩
      · exact .inl ⟨τ', y1, fun c a b d e => (y2 c a b d e).trans (z2 c a b d e), y3⟩
      · exact .inr ⟨τ', Y', l', y1, fun c a b d e => (y2 c a b d e).trans (z2 c a b d e), y3, y4⟩
theorem e12_canL4 {H fi : Nat} {M nd ls : Nat → Nat} (hH : H ≤ 8) (hM : ∀ h, h < 8 → M h < 256) (hnd : ∀ i, i < H → nd i ≤ 8) (hls : ∀ x, x < 8 → ls x ≤ 5) : ∀ (r h n : Nat) (τ : z_M) (Y l : Nat → Nat), h + r = H → fi ≤ h → r < n → RS1 H fi M nd ls Y l τ → (∀ j, j < 8 → pc (Y j) = if fi ≤ j ∧ j < h then nd j else 0) → (∃ τ', f12_canAll_L4 n (nI fi) 1 (nI h) τ = some (0, τ') ∧ (∀ c, c ≠ 24 → c ≠ 25 → c ≠ 26 → c ≠ 27 → τ' c = τ c) ∧ ∀ X, ¬ AS1 H fi M nd ls X) ∨ ∃ τ', f12_canAll_L4 n (nI fi) 1 (nI h) τ = some (1, τ') ∧ (∀ c, c ≠ 24 → c ≠ 25 → c ≠ 26 → c ≠ 27 → τ' c = τ c) ∧ ∃ X, AS1 H fi M nd ls X
  | 0, h, n, τ, Y, l, h1, hfh, h2, hS, hp => by
    obtain ⟨n, rfl⟩ : ∃ m, n = m + 1 := ⟨n - 1, by omega⟩
    right
    refine ⟨τ, ?_, fun _ _ _ _ _ => rfl, Y, fun j hj => ⟨?_, fun q => hS.2.1 j hj q, fun a b => ⟨hS.2.2.1 j hj, by rw [hp j hj, if_pos ⟨a, by omega⟩]⟩⟩, fun x hx => ?_⟩
    · unfold f12_canAll_L4
      rw [hS.1.2.2, if_neg (nI_nlt (by omega) (by omega)), q_chk _ (by decide)]
    · by_cases e : j < H
      · exact (hS.1.1 j e).2.2.2
      · rw [hS.2.1 j hj (.inr (by omega))]; omega
    · have := hS.2.2.2.1 x hx
      omega
  | r + 1, h, n, τ, Y, l, h1, hfh, h2, hS, hp => by
    obtain ⟨n, rfl⟩ : ∃ m, n = m + 1 := ⟨n - 1, by omega⟩
    have hhH : h < H := by omega
    have hn8 := hnd h hhH
    have hYh : Y h = 0 := by
      have h0 := hp h (by omega)
      rw [if_neg (by omega)] at h0
      apply Nat.eq_of_testBit_eq
      intro x
      rw [Nat.zero_testBit]
      cases q : (Y h).testBit x
      · rfl
      · have hx8 := t_bit8 (hS.1.1 h hhH).2.2.2 q
        have := pc_dN (hS.1.1 h hhH).2.2.2 hx8 q
        omega
    have hsame : z_set τ 24 h 0 = τ := k_set_same (by rw [(hS.1.1 h hhH).2.2.1, hYh]; rfl)
    have hb : f12_canAll_L4 (n + 1) (nI fi) 1 (nI h) τ = f12_canAll_L22 (f12_canAll_L4 n) z_fu (nI fi) 1 (nI h) 0 τ := by
      conv => lhs; unfold f12_canAll_L4
      rw [hS.1.2.2, if_pos (nI_lt (by omega) (by omega)), k_cin _ (by omega) (by omega), q_ix (by omega), q_let, hsame]
    rw [hb]
    rcases e12_cL22 hH hM hnd hhH hfh hls (f12_canAll_L4 n) (nd h) 0 z_fu τ Y l (by omega) (show nd h + 1 < 1000 by omega) hS (fun j hj => by
      rw [hp j hj]
      by_cases e1 : fi ≤ j ∧ j < h
      · rw [if_pos e1, if_pos e1]
      · rw [if_neg e1, if_neg e1]; split <;> rfl) with ⟨τ1, z1, z2, z3⟩ | ⟨τ1, Y1, l1, z1, z2, z3, z4⟩
    · left
      have z1 : f12_canAll_L22 (f12_canAll_L4 n) z_fu (nI fi) 1 (nI h) 0 τ = f12_canAll_L4 n (nI fi) 0 (nI (h + 1)) τ1 := z1
      obtain ⟨τ', y1, y2⟩ := e12_zero (fi := fi) (nd := nd) hH r (h + 1) n τ1 (by omega) (by omega) (by rw [z2 0 (by omega) (by omega) (by omega) (by omega)]; exact hS.1.2.2) (fun i hi => by rw [z2 23 (by omega) (by omega) (by omega) (by omega)]; exact hS.2.2.2.2 i hi) hnd
      exact ⟨τ', z1.trans y1, fun c a b d e => (y2 c a).trans (z2 c a b d e), z3⟩
    · have z1 : f12_canAll_L22 (f12_canAll_L4 n) z_fu (nI fi) 1 (nI h) 0 τ = f12_canAll_L4 n (nI fi) 1 (nI (h + 1)) τ1 := z1
      rw [z1]
      rcases e12_canL4 hH hM hnd hls r (h + 1) n τ1 Y1 l1 (by omega) (by omega) (by omega) z3 z4 with ⟨τ', y1, y2, y3⟩ | ⟨τ', y1, y2, y3⟩
      · exact .inl ⟨τ', y1, fun c a b d e => (y2 c a b d e).trans (z2 c a b d e), y3⟩
      · exact .inr ⟨τ', y1, fun c a b d e => (y2 c a b d e).trans (z2 c a b d e), y3⟩
