/-! the reference: the set for a house, and all of them -/
def TK (H : Nat) (M nd st g : Nat → Nat) (k : Nat) (τ : z_M) : Prop := τ 0 6 = nI H ∧ (∀ i, i < H → τ 22 i = nI (M i) ∧ τ 23 i = nI (nd i)) ∧ (∀ x, x < 8 → τ 4 x = nI (st x)) ∧ ∀ i, i < k → τ 28 i = nI (g i)
theorem TK_cong {H k : Nat} {M nd st g : Nat → Nat} {τ τ' : z_M} (h : TK H M nd st g k τ) (e : TF τ τ') (e28 : ∀ i, i < k → τ' 28 i = τ 28 i) : TK H M nd st g k τ' := by
  obtain ⟨a, b, c, d⟩ := h
  unfold TK
  rw [e 0 (by omega) (by omega) (by omega) (by omega) (by omega), e 22 (by omega) (by omega) (by omega) (by omega) (by omega), e 23 (by omega) (by omega) (by omega) (by omega) (by omega), e 4 (by omega) (by omega) (by omega) (by omega) (by omega)]
  exact ⟨a, b, c, fun i hi => by rw [e28 i hi]; exact d i hi⟩
theorem TF_trans {τ τ' τ'' : z_M} (h : TF τ τ') (g : TF τ' τ'') : TF τ τ'' := fun c a b d e f => (g c a b d e f).trans (h c a b d e f)
def GO (H : Nat) (M nd g : Nat → Nat) (k : Nat) : Prop := ∀ i, i < k → g i < 256 ∧ sb (g i) (M i) ∧ pc (g i) = nd i
theorem cnt_split {X G : Nat → Nat} {h x : Nat} (hh : h < 8) (e : ∀ i, i < h + 1 → X i = G i) : cnt X x = cN (fun i => (G i).testBit x) (h + 1) + cnt (fun i => if i < h + 1 then 0 else X i) x := by
  have := cN_join (p := fun i => (X i).testBit x) (a := fun i => (G i).testBit x) (b := fun i => (if i < h + 1 then 0 else X i).testBit x) (m := h + 1) (fun i hi => by show (X i).testBit x = _; rw [e i hi]) (fun i hi => by show (if i < h + 1 then 0 else X i).testBit x = _; rw [if_pos hi, Nat.zero_testBit]) (fun i hi => by show (if i < h + 1 then 0 else X i).testBit x = _; rw [if_neg (by omega)]) (8 - (h + 1))
  rw [show h + 1 + (8 - (h + 1)) = 8 by omega] at this
  exact this
theorem e12_canTake {H h s : Nat} {M nd st g : Nat → Nat} {τ : z_M} (hH : H ≤ 8) (hM : ∀ h, h < 8 → M h < 256) (hnd : ∀ i, i < H → nd i ≤ 8) (hst : ∀ x, x < 8 → st x ≤ 5) (hT : TK H M nd st g h τ) (hh : h < H) (hG : GO H M nd (put g h s) (h + 1)) : ∃ τ', TF τ τ' ∧ (∀ i, i < h → τ' 28 i = τ 28 i) ∧ ((f12_canTake (nI h) (nI s) τ = some (0, τ') ∧ ¬ Fe H M nd st (h + 1) (put g h s)) ∨ (f12_canTake (nI h) (nI s) τ = some (1, τ') ∧ Fe H M nd st (h + 1) (put g h s))) := by
  obtain ⟨t1, t2, t3, t4⟩ := hT
  let G := put g h s
  let C := fun x => cN (fun i => (G i).testBit x) (h + 1)
  obtain ⟨τ1, a1, a2, a3⟩ := e12_tL2 (h := h) (s := s) 8 0 z_fu τ (by omega) (by decide) (fun x hx => absurd hx (by omega))
  let τ2 := z_set τ1 28 h (nI s)
  have f2 : ∀ c, c ≠ 25 → c ≠ 28 → τ2 c = τ c := fun c a b => by
    show z_set τ1 28 h (nI s) c = _
    rw [s_ne b]; exact a2 c a
  have g2 : ∀ i, i < h → τ2 28 i = τ 28 i := fun i hi => by
    show z_set τ1 28 h (nI s) 28 i = _
    rw [s_kn (by omega), a2 28 (by omega)]
  have h28 : ∀ i, i ≤ h → τ2 28 i = nI (G i) := fun i hi => by
    show _ = nI (put g h s i)
    by_cases e : i = h
    · rw [e, put_eq]
      show z_set τ1 28 h (nI s) 28 h = _
      rw [s_eq]
    · rw [put_ne e, g2 i (by omega)]; exact t4 i (by omega)
  obtain ⟨τ3, b1, b2, b3⟩ := e12_tL35 (h := h) (G := G) (b := fun x => nI (st x)) (by omega) (fun o ho => (hG o (by omega)).1) (h + 1) 0 z_fu τ2 (by omega) (show h + 1 < 1000 by omega) h28 (fun x hx => by
    show z_set τ1 28 h (nI s) 25 x = nI (st x) - nI 0
    rw [s_ne (by omega), a3 x hx, t3 x hx, pk_sub (Nat.zero_le _)]; rfl)
  have f3 : ∀ c, c ≠ 25 → c ≠ 28 → τ3 c = τ c := fun c a b => by rw [b2 c a]; exact f2 c a b
  have g3 : ∀ i, i < h → τ3 28 i = τ 28 i := fun i hi => by rw [b2 28 (by omega)]; exact g2 i hi
  have hbeg : f12_canTake (nI h) (nI s) τ = f12_canTake_L95 z_fu (nI h) 0 τ3 := by
    have a1 : f12_canTake (nI h) (nI s) τ = f12_canTake_J26 (nI h) (nI s) τ1 := a1
    rw [a1]
    unfold f12_canTake_J26
    rw [k_cin _ (show h < 8 by omega) (by omega), q_ix (by omega), q_let]
    exact b1
  have hCb : ∀ x, C x ≤ h + 1 := fun x => cN_le _ _
  rcases e12_tL95 (h := h) (τ := τ3) 8 0 z_fu (by omega) (by decide) with ⟨c1, x, hx, c2⟩ | ⟨c1, c2⟩
  · refine ⟨τ3, fun c _ a _ _ b => f3 c a b, g3, .inl ⟨hbeg.trans c1, fun ⟨X, x1, x2⟩ => ?_⟩⟩
    have hlt : st x < C x := by
      rcases Nat.lt_or_ge (st x) (C x) with q | q
      · exact q
      · exfalso
        rw [b3 x hx] at c2
        have c2 : nI (st x) - nI (C x) < 0 := c2
        rw [pk_sub q] at c2
        exact nI_pos (by have := hst x hx; omega) c2
    have e1 := cnt_split (x := x) (show h < 8 by omega) x2
    have e2 := x1.2 x hx
    have e1 : cnt X x = C x + _ := e1
    omega
  · have hle : ∀ x, x < 8 → C x ≤ st x := fun x hx => by
      rcases Nat.lt_or_ge (st x) (C x) with q | q
      · exfalso
        apply c2 x (Nat.zero_le _) hx
        rw [b3 x hx]
        exact pk_sneg (show C x < 2 ^ 30 by have := hCb x; omega) q
      · exact q
    obtain ⟨τ4, d1, d2, d3⟩ := e12_tL120 (h := h) hH H 0 z_fu τ3 (by omega) (show H < 1000 by omega) (by rw [f3 0 (by omega) (by omega)]; exact t1) (fun i hi => absurd hi (by omega))
    let ls := fun x => st x - C x
    have f4 : ∀ c, c ≠ 24 → c ≠ 25 → c ≠ 28 → τ4 c = τ c := fun c a b d => by rw [d2 c a]; exact f3 c b d
    have hz : ∀ y, pc 0 = 0 ∧ cnt (fun _ => 0) y = 0 := fun y => by
      refine ⟨by decide, ?_⟩
      unfold cnt
      rw [cN_zero]
      intro i _
      exact Nat.zero_testBit y
    have hRS : RS1 H (h + 1) M nd ls (fun _ => 0) ls τ4 := by
      refine ⟨⟨fun i hi => ⟨?_, hM i (by omega), ?_, (by show 0 < 256; omega)⟩, fun x hx => ⟨?_, ?_⟩, ?_⟩, fun _ _ _ => rfl, fun i _ y q => ?_, fun x hx => ?_, fun i hi => ?_⟩
      · rw [f4 22 (by omega) (by omega) (by omega)]; exact (t2 i hi).1
      · rw [d3 i hi]; rfl
      · rw [d2 25 (by omega), b3 x hx]
        exact pk_sub (hle x hx)
      · show st x - C x ≤ 1000
        have := hst x hx
        omega
      · rw [f4 0 (by omega) (by omega) (by omega)]; exact t1
      · rw [Nat.zero_testBit] at q; exact absurd q (by decide)
      · rw [(hz x).2, Nat.add_zero]
      · rw [f4 23 (by omega) (by omega) (by omega)]; exact (t2 i hi).2
    have hend : ∀ v τ', (v = 0 ∨ v = 1) → f12_canAll_L4 z_fu (nI (h + 1)) 1 (nI (h + 1)) τ4 = some (v, τ') → f12_canTake (nI h) (nI s) τ = some (v, τ') := by
      intro v τ' hv e
      have d1 : f12_canTake_J118 (nI h) τ3 = f12_canTake_J141 (nI h) τ4 := d1
      have c1 : f12_canTake_L95 z_fu (nI h) 0 τ3 = f12_canTake_J118 (nI h) τ3 := c1
      rw [hbeg, c1, d1]
      unfold f12_canTake_J141 f12_canAll
      rw [nI_1, e, q_bnd]
      rcases hv with rfl | rfl
      · rw [q_chk _ (by decide)]
      · rw [q_chk _ (by decide)]
    rcases e12_canL4 hH hM hnd (ls := ls) (fun x hx => by show st x - C x ≤ 5; have := hst x hx; omega) (H - (h + 1)) (h + 1) z_fu τ4 (fun _ => 0) ls (by omega) (Nat.le_refl _) (show H - (h + 1) < 1000 by omega) hRS (fun j _ => by rw [if_neg (by omega)]; exact (hz 0).1) with ⟨τ', z1, z2, z3⟩ | ⟨τ', z1, z2, X, z3, z4⟩
    · refine ⟨τ', fun c a b d e f => by rw [z2 c a b d e]; exact f4 c a b f, fun i hi => by rw [z2 28 (by omega) (by omega) (by omega) (by omega), d2 28 (by omega)]; exact g3 i hi, .inl ⟨hend 0 τ' (.inl rfl) z1, fun ⟨X, x1, x2⟩ => ?_⟩⟩
      refine z3 (fun i => if i < h + 1 then 0 else X i) ⟨fun i hi => ⟨?_, fun q => ?_, fun q1 q2 => ?_⟩, fun x hx => ?_⟩
      · show (if i < h + 1 then 0 else X i) < 256
        split
        · omega
        · exact (x1.1 i hi).1
      · show (if i < h + 1 then 0 else X i) = 0
        split
        · rfl
        · exact (x1.1 i hi).2.1 (by omega)
      · show sb (if i < h + 1 then 0 else X i) (M i) ∧ pc (if i < h + 1 then 0 else X i) = nd i
        rw [if_neg (by omega)]
        exact (x1.1 i hi).2.2 q2
      · have e1 := cnt_split (x := x) (show h < 8 by omega) x2
        have e2 := x1.2 x hx
        have e1 : cnt X x = C x + _ := e1
        show _ ≤ st x - C x
        omega
    · refine ⟨τ', fun c a b d e f => by rw [z2 c a b d e]; exact f4 c a b f, fun i hi => by rw [z2 28 (by omega) (by omega) (by omega) (by omega), d2 28 (by omega)]; exact g3 i hi, .inr ⟨hend 1 τ' (.inr rfl) z1, (fun i => if i < h + 1 then G i else X i), ⟨fun i hi => ⟨?_, fun q => ?_, fun q => ?_⟩, fun x hx => ?_⟩, fun i hi => ?_⟩⟩
      · show (if i < h + 1 then G i else X i) < 256
        split
        · exact (hG i (by omega)).1
        · exact (z3 i hi).1
      · show (if i < h + 1 then G i else X i) = 0
        rw [if_neg (by omega)]
        exact (z3 i hi).2.1 (.inr q)
      · show sb (if i < h + 1 then G i else X i) (M i) ∧ pc (if i < h + 1 then G i else X i) = nd i
        by_cases e : i < h + 1
        · rw [if_pos e]; exact (hG i e).2
        · rw [if_neg e]; exact (z3 i hi).2.2 (by omega) q
      · have e1 := cnt_split (X := fun i => if i < h + 1 then G i else X i) (G := G) (x := x) (show h < 8 by omega) (fun i hi => if_pos hi)
        have e3 : (fun i => if i < h + 1 then 0 else (if i < h + 1 then G i else X i)) = X := by
          funext i
          by_cases e : i < h + 1
          · rw [if_pos e, (z3 i (by omega)).2.1 (.inl e)]
          · rw [if_neg e, if_neg e]
        have e2 := z4 x hx
        have e2 : cnt X x ≤ st x - C x := e2
        have e4 := hle x hx
        rw [e1, e3]
        show C x + _ ≤ _
        omega
      · show (if i < h + 1 then G i else X i) = put g h s i
        rw [if_pos hi]

theorem e12_sL2 {H h : Nat} {M nd st g : Nat → Nat} {τ0 : z_M} (hH : H ≤ 8) (hM : ∀ h, h < 8 → M h < 256) (hnd : ∀ i, i < H → nd i ≤ 8) (hst : ∀ x, x < 8 → st x ≤ 5) (hh : h < H) (hG : GO H M nd g h) : ∀ (r s n : Nat) (τ : z_M), s + r = 256 → r < n → TF τ0 τ → TK H M nd st g h τ → (∀ u, u < s → ¬ Fe H M nd st (h + 1) (put g h u)) → (∃ τ', f12_setFor_L2 n (nI h) (nI s) τ = some (-1, τ') ∧ TF τ0 τ' ∧ ∀ u, ¬ Fe H M nd st (h + 1) (put g h u)) ∨ ∃ τ' u, f12_setFor_L2 n (nI h) (nI s) τ = some (nI u, τ') ∧ TF τ0 τ' ∧ TK H M nd st g h τ' ∧ Fe H M nd st (h + 1) (put g h u) ∧ (∀ v, v < u → ¬ Fe H M nd st (h + 1) (put g h v)) ∧ GO H M nd (put g h u) (h + 1)
  | 0, s, n, τ, h1, h2, hF, hT, hs => by
    obtain ⟨n, rfl⟩ : ∃ m, n = m + 1 := ⟨n - 1, by omega⟩
    left
    refine ⟨τ, ?_, hF, fun u hu => ?_⟩
    · unfold f12_setFor_L2
      rw [if_neg (show ¬ nI s < 256 from nI_nlt (a := s) (b := 256) (by omega) (by omega))]
    · rcases Nat.lt_or_ge u s with q | q
      · exact hs u q hu
      · obtain ⟨X, x1, x2⟩ := hu
        have := (x1.1 h (by omega)).1
        rw [x2 h (by omega), put_eq] at this
        omega
  | r + 1, s, n, τ, h1, h2, hF, hT, hs => by
    obtain ⟨n, rfl⟩ : ∃ m, n = m + 1 := ⟨n - 1, by omega⟩
    have hs8 : s < 256 := by omega
    have hMh := hM h (by omega)
    have hpl : pc s ≤ 8 := cN_le _ 8
    have hnh := hnd h hh
    have hb : f12_setFor_L2 (n + 1) (nI h) (nI s) τ = if nI (dN s (M h)) = 0 then (if nI (pc s) = nI (nd h) then z_bnd (f12_canTake (nI h) (nI s) τ) (fun r5 σ6 => if r5 = 0 then f12_setFor_L2 n (nI h) (nI (s + 1)) σ6 else some (nI s, σ6)) else f12_setFor_L2 n (nI h) (nI (s + 1)) τ) else f12_setFor_L2 n (nI h) (nI (s + 1)) τ := by
      conv => lhs; unfold f12_setFor_L2
      rw [if_pos (show nI s < 256 from nI_lt (a := s) (b := 256) (by omega) (by omega)), k_cin _ (show h < 8 by omega) (by omega), q_ix (by omega), (hT.2.1 h hh).1, k_dN hs8, e12_onesOf hs8, q_bnd, k_cin _ (show h < 8 by omega) (by omega), (hT.2.1 h hh).2, nI_1]
    have hno : (sb s (M h) → pc s = nd h → ¬ Fe H M nd st (h + 1) (put g h s)) → ∀ u, u < s + 1 → ¬ Fe H M nd st (h + 1) (put g h u) := by
      intro q u hu
      by_cases e : u = s
      · rw [e]
        intro hf
        have hf' := hf
        obtain ⟨X, x1, x2⟩ := hf
        have := (x1.1 h (by omega)).2.2 hh
        rw [x2 h (by omega), put_eq] at this
        exact q this.1 this.2 hf'
      · exact hs u (by omega)
    have hd0 : dN s (M h) = 0 ↔ sb s (M h) := by
      constructor
      · intro e i hi
        exact dN_0 hs8 e i hi
      · intro e
        apply Nat.eq_of_testBit_eq
        intro i
        rw [t_dN hs8, Nat.zero_testBit]
        cases q : s.testBit i
        · rfl
        · rw [e i q]; rfl
    have hdl : dN s (M h) < 256 := dN_lt hs8 _
    rw [hb]
    by_cases c1 : dN s (M h) = 0
    · rw [if_pos (k_z c1)]
      by_cases c2 : pc s = nd h
      · rw [if_pos (by rw [c2])]
        have hG1 : GO H M nd (put g h s) (h + 1) := fun i hi => by
          by_cases e : i = h
          · rw [e, put_eq]; exact ⟨hs8, hd0.mp c1, c2⟩
          · rw [put_ne e]; exact hG i (by omega)
        obtain ⟨τ1, a1, a2, ⟨a3, a4⟩ | ⟨a3, a4⟩⟩ := e12_canTake hH hM hnd hst hT hh hG1
        · rw [a3, q_bnd, i_00]
          exact e12_sL2 hH hM hnd hst hh hG r (s + 1) n τ1 (by omega) (by omega) (TF_trans hF a1) (TK_cong hT a1 a2) (hno (fun _ _ => a4))
        · rw [a3, q_bnd, i_10]
          exact .inr ⟨τ1, s, rfl, TF_trans hF a1, TK_cong hT a1 a2, a4, hs, hG1⟩
      · rw [if_neg (by rw [nI_eq (by omega) (by omega)]; exact c2)]
        exact e12_sL2 hH hM hnd hst hh hG r (s + 1) n τ (by omega) (by omega) hF hT (hno (fun _ q => absurd q c2))
    · rw [if_neg (k_nz c1 (by omega))]
      exact e12_sL2 hH hM hnd hst hh hG r (s + 1) n τ (by omega) (by omega) hF hT (hno (fun q => absurd (hd0.mpr q) c1))
theorem e12_gL36 {H : Nat} {M nd st : Nat → Nat} {τ0 : z_M} {p : Int32} (hH : H ≤ 8) (hM : ∀ h, h < 8 → M h < 256) (hnd : ∀ i, i < H → nd i ≤ 8) (hst : ∀ x, x < 8 → st x ≤ 5) : ∀ (r h n : Nat) (τ : z_M) (g : Nat → Nat), h + r = H → r < n → TF τ0 τ → TK H M nd st g h τ → GO H M nd g h → Gr H M nd st h g → (h = 0 ∨ Fe H M nd st h g) → (∃ τ', f12_gives_L36 n p (nI (su nd h)) (nI h) τ = some (-1, τ') ∧ TF τ0 τ' ∧ ∀ X, ¬ AS H M nd st X) ∨ ∃ τ' g', f12_gives_L36 n p (nI (su nd h)) (nI h) τ = f12_gives_J86 p (nI (su nd H)) τ' ∧ TF τ0 τ' ∧ (∀ i, i < H → τ' 28 i = nI (g' i)) ∧ Gr H M nd st H g' ∧ (H = 0 ∨ ∃ X, AS H M nd st X)
  | 0, h, n, τ, g, h1, h2, hF, hT, hG, hR, hE => by
    obtain ⟨n, rfl⟩ : ∃ m, n = m + 1 := ⟨n - 1, by omega⟩
    obtain rfl : h = H := by omega
    right
    refine ⟨τ, g, ?_, hF, hT.2.2.2, hR, ?_⟩
    · unfold f12_gives_L36
      rw [hT.1, if_neg (nI_nlt (by omega) (by omega))]
    · rcases hE with q | ⟨X, q, -⟩
      · exact .inl q
      · exact .inr ⟨X, q⟩
  | r + 1, h, n, τ, g, h1, h2, hF, hT, hG, hR, hE => by
    obtain ⟨n, rfl⟩ : ∃ m, n = m + 1 := ⟨n - 1, by omega⟩
    have hh : h < H := by omega
    have hb : ∀ v τ1, f12_setFor (nI h) τ = some (v, τ1) → f12_gives_L36 (n + 1) p (nI (su nd h)) (nI h) τ = if v = -1 then some (-1, z_set τ1 28 h v) else z_bnd (f12_onesOf v (z_set τ1 28 h v)) (fun r7 σ8 => f12_gives_L36 n p (nI (su nd h) + r7) (nI (h + 1)) σ8) := by
      intro v τ1 e
      conv => lhs; unfold f12_gives_L36
      rw [hT.1, if_pos (nI_lt (by omega) (by omega)), e, q_bnd, k_cin _ (show h < 8 by omega) (by omega), q_ix (by omega), q_let, k_cin _ (show h < 8 by omega) (by omega), k_cin _ (show h < 8 by omega) (by omega), s_eq, nI_1]
    rcases e12_sL2 (τ0 := τ0) hH hM hnd hst hh hG 256 0 z_fu τ (by omega) (by decide) hF hT (fun u hu => absurd hu (by omega)) with ⟨τ1, a1, a2, a3⟩ | ⟨τ1, u, a1, a2, a3, a4, a5, a6⟩
    · left
      rw [hb _ τ1 a1, if_pos rfl]
      refine ⟨_, rfl, fun c a b d e f => by rw [s_ne f]; exact a2 c a b d e f, fun X hX => ?_⟩
      have hFe : Fe H M nd st h g := by
        rcases hE with q | q
        · exact ⟨X, hX, fun i hi => absurd hi (by omega)⟩
        · exact q
      obtain ⟨Y, y1, y2⟩ := hFe
      exact a3 (Y h) ⟨Y, y1, fun i hi => by
        by_cases e : i = h
        · rw [e, put_eq]
        · rw [put_ne e]; exact y2 i (by omega)⟩
    · obtain ⟨u1, u2, u3⟩ := a6 h (by omega)
      rw [put_eq] at u1 u2 u3
      have hF1 : TF τ0 (z_set τ1 28 h (nI u)) := fun c a b d e f => by rw [s_ne f]; exact a2 c a b d e f
      have hT1 : TK H M nd st (put g h u) (h + 1) (z_set τ1 28 h (nI u)) := by
        obtain ⟨k1, k2, k3, k4⟩ := a3
        unfold TK
        rw [s_ne (by omega), s_ne (by omega), s_ne (by omega), s_ne (by omega)]
        refine ⟨k1, k2, k3, fun i hi => ?_⟩
        by_cases e : i = h
        · rw [e, s_eq, put_eq]
        · rw [s_kn e, put_ne e]; exact k4 i (by omega)
      have hR1 : Gr H M nd st (h + 1) (put g h u) := fun i hi => by
        by_cases e : i = h
        · rw [e, put_eq]
          refine ⟨a4, fun s hs hq => a5 s hs (Fe_cong hq (fun j hj => ?_))⟩
          by_cases ej : j = h
          · rw [ej, put_eq, put_eq]
          · rw [put_ne ej, put_ne ej, put_ne ej]
        · rw [put_ne e]
          obtain ⟨r1, r2⟩ := hR i (by omega)
          refine ⟨Fe_cong r1 (fun j hj => put_ne (by omega)), fun s hs hq => r2 s hs (Fe_cong hq (fun j hj => ?_))⟩
          by_cases ej : j = i
          · rw [ej, put_eq, put_eq]
          · rw [put_ne ej, put_ne ej, put_ne (by omega)]
      have hs : f12_gives_L36 (n + 1) p (nI (su nd h)) (nI h) τ = f12_gives_L36 n p (nI (su nd (h + 1))) (nI (h + 1)) (z_set τ1 28 h (nI u)) := by
        rw [hb _ τ1 a1, if_neg (q_neg (by omega)), e12_onesOf u1, q_bnd, u3, nI_add]
        rfl
      rw [hs]
      exact e12_gL36 hH hM hnd hst r (h + 1) n (z_set τ1 28 h (nI u)) (put g h u) (by omega) (by omega) hF1 hT1 a6 hR1 (.inr a4)
