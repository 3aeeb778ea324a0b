/-! the law: sums -/
/-- what waits in a sum: 0 nothing, 1 a +, 2 a - -/
def pv (pd : Nat) : Int32 := if pd = 0 then -1 else nI (32 + pd)
def ps (pd : Nat) (s : List Bool) : List Bool := if pd = 0 then false :: s else false :: false :: s
def refK (pd q : Nat) (τ : z_M) : Option (Int32 × z_M) := if pd = 0 then f12_readSum_L10 q τ else z_bnd (f12_emits (nI (pd + 1)) 0 τ) fun _ σ6 => f12_readSum_L10 q σ6
def refP (pd p q : Nat) (τ : z_M) : Option (Int32 × z_M) := z_bnd (f12_readProduct_L10 p τ) fun r τ1 => if r = -1 then some (-1, τ1) else refK pd q τ1
theorem ps_len {pd : Nat} {s : List Bool} : (ps pd s).length ≤ s.length + 2 := by
  unfold ps
  split <;> simp
theorem ps_cons {pd : Nat} {s : List Bool} : ∃ t, ps pd s = false :: t := by
  unfold ps
  split
  · exact ⟨s, rfl⟩
  · exact ⟨false :: s, rfl⟩
section
variable {n N : Nat} {b P : Nat → Nat} {K V L : Nat → Int32}
theorem AM_sg {x j : Nat} {τ : z_M} (hm : AM n b P K V L x τ) (hj : j < 10) (a : K x = nI (32 + j)) : τ 0 17 = 4 ∧ τ 0 18 = nI (sg j) := by
  obtain ⟨-, -, -, -, t⟩ := hm
  rcases t with ⟨e, c⟩ | ⟨e, c⟩ | ⟨e, c, d⟩ | ⟨i, i1, e, c, d⟩ | ⟨i, i1, e, c, d⟩
  · rw [a] at e; have e : nI (32 + j) = nI 43 := e; rw [nI_eq (by omega) (by omega)] at e; omega
  · rw [a] at e; have e : nI (32 + j) = nI 44 := e; rw [nI_eq (by omega) (by omega)] at e; omega
  · rw [a] at e; have e : nI (32 + j) = nI 42 := e; rw [nI_eq (by omega) (by omega)] at e; omega
  · rw [a, nI_eq (by omega) (by omega)] at e; omega
  · rw [a, nI_eq (by omega) (by omega)] at e
    obtain rfl : j = i := by omega
    exact ⟨c, d⟩
theorem e3_unitF {σ : z_M} (h2 : ¬ σ 101 2 = 0) : f3_readUnit σ = some ((), σ) := by
  unfold f3_readUnit
  rw [if_neg h2]
theorem e3_sumLF {m : Nat} {v1 v2 : Int32} {σ : z_M} (h2 : ¬ σ 101 2 = 0) : f3_readSum_L8 (m + 1) v1 v2 σ = some ((), σ) := by
  unfold f3_readSum_L8
  rw [if_neg h2, ite_self]
theorem e3_sumF {σ : z_M} (h2 : ¬ σ 101 2 = 0) : f3_readSum σ = some ((), σ) := by
  unfold f3_readSum
  rw [e3_unitF h2, q_bnd]
  exact e3_sumLF (m := 999) h2
/-- what waits is put -/
theorem r_pend {f c x pd q : Nat} {s : List Bool} {σ τ : z_M} (h : BL n N b P K V L f c x (ps pd s) σ τ) (hpd : pd ≤ 2) (hc : c < 400 ∨ pd = 0) : ∃ σ1 τ1, (∀ X : z_M → Option (Unit × z_M), (if pv pd = -1 then X σ else z_bnd (f9_emit 102 (pv pd) σ) fun _ σ4 => X σ4) = X σ1) ∧ refK pd q τ = f12_readSum_L10 q τ1 ∧ BL n N b P K V L f (c + min pd 1) x (false :: s) σ1 τ1 ∧ SF c σ τ σ1 τ1 := by
  have hp : pd = 0 ∨ pd = 1 ∨ pd = 2 := by omega
  rcases hp with rfl | rfl | rfl
  · exact ⟨σ, τ, fun X => if_pos rfl, if_pos rfl, h, SF_tok (QF_refl _) (MF_refl _)⟩
  · have hc : c < 400 := by omega
    refine ⟨EC c 33 σ, EM c 2 0 τ, fun X => ?_, ?_, BL_emit (s' := false :: s) h (.inr (.inr (.inl ⟨rfl, rfl⟩))) dep_33 (fun z => absurd z (by decide)), SF_emit⟩
    · rw [if_neg (by decide), e9_emit hc h.2.1.1]; rfl
    · unfold refK
      rw [if_neg (by omega), e12_emits hc h.2.1.2.1]; rfl
  · have hc : c < 400 := by omega
    refine ⟨EC c 34 σ, EM c 3 0 τ, fun X => ?_, ?_, BL_emit (s' := false :: s) h (.inr (.inr (.inr (.inl ⟨rfl, rfl⟩)))) dep_34 (fun z => absurd z (by decide)), SF_emit⟩
    · rw [if_neg (by decide), e9_emit hc h.2.1.1]; rfl
    · unfold refK
      rw [if_neg (by omega), e12_emits hc h.2.1.2.1]; rfl
/-- a number behind a / -/
theorem r_parted {f c x : Nat} {t : List Bool} {σ τ : z_M} (hB : TkB n b N P K V L) (h : BL n N b P K V L f c x (false :: t) σ τ) (hcx : c + 1 ≤ x) (ht : t.length < 29) (k10 : z_M → Option (Int32 × z_M)) : (∃ σ' σ1 σ2 τ' v, f3_number 1 9999 σ = some (nI v, σ1) ∧ f9_emit 102 (64 + nI v) σ1 = some ((), σ2) ∧ f9_emit 102 36 σ2 = some ((), σ') ∧ (if τ 0 17 = 3 then f12_readProduct_J57 k10 0 τ else f12_readProduct_J51 τ) = k10 τ' ∧ BL n N b P K V L f (c + 2) (x + 1) (false :: t) σ' τ' ∧ SF c σ τ σ' τ') ∨ ∃ σ1 τ', f3_number 1 9999 σ = some (-1, σ1) ∧ (if τ 0 17 = 3 then f12_readProduct_J57 k10 0 τ else f12_readProduct_J51 τ) = some (-1, τ') ∧ FA N K V L σ τ σ1 τ' := by
  obtain ⟨hx, hN⟩ := Bo_N hB h.1
  rw [e3_num hB h.1]
  rcases AM_num h.1.2.1 with ⟨a, e17, v, v1, v2, v3⟩ | ⟨a, e17⟩
  · rw [if_pos a, if_pos e17, v2]
    unfold f12_readProduct_J57 f12_readProduct_J68 f12_readProduct_J74 f12_readProduct_J94
    rw [i_00, v3, Bo_errs h.1, q_bnd]
    by_cases q : v = 0
    · right
      rw [q, if_pos (show nI 0 < 1 by decide), if_pos (show nI 0 = 0 from rfl)]
      exact ⟨_, _, rfl, rfl, FA_here h.1.1 (by decide)⟩
    · left
      have hlt := x_lt hB hx (by rw [a]; decide)
      have e64 : (64 : Int32) + nI v = nI (64 + v) := by show nI 64 + nI v = _; rw [nI_add]
      -- the reference
      have hEm : AM n b P K V L x (EM c 0 (nI v) τ) := (Bo_emit (c := c) (v := 0) (o := 0) (a := nI v) h.1).2.1
      obtain ⟨τ1, y1, y2, y3⟩ := AM_next hB hEm hlt
      -- the class
      have hc1 := AC_next h.1.1 hlt
      have hBo1 : Bo n N b P K V L (x + 1) (EC c (nI (64 + v)) (z_set σ 101 4 (nI (x + 1)))) τ1 := by
        have := (Bo_emit (c := c) (v := nI (64 + v)) (o := 0) (a := 0) (σ := z_set σ 101 4 (nI (x + 1))) (τ := τ1) ⟨hc1, y3, by rw [s_kn (by omega)]; exact h.1.2.2⟩)
        exact ⟨this.1, y3, this.2.2⟩
      have hCD0 : CD c (z_set σ 101 4 (nI (x + 1))) τ := CD_cong h.2.1 (by rw [s_ne (by omega)]) (s_ne (by omega)) rfl rfl rfl
      have hCD1 : CD (c + 1) (EC c (nI (64 + v)) (z_set σ 101 4 (nI (x + 1)))) τ1 := CD_cong (CD_emit (v := nI (64 + v)) (o := 0) (a := nI v) hCD0 (.inl ⟨v, by omega, rfl, rfl, rfl⟩)) rfl rfl (y2.2 28 (by omega)) (y2.1 14 (by omega)) (y2.1 15 (by omega))
      have hWF1 : WF f (c + 1) (EC c (nI (64 + v)) (z_set σ 101 4 (nI (x + 1))) 104) (false :: false :: t) := WF_push (v := nI (64 + v)) h.2.2 (dep_num v1 (by simp; omega)) (fun z => by (have z : nI (64 + v) = nI 36 := z; rw [nI_eq (by omega) (by omega)] at z; omega)) (fun i hi => by rw [EC_104.1 i hi, s_ne (by omega)]) EC_104.2
      have hBL1 : BL n N b P K V L f (c + 1) (x + 1) (false :: false :: t) (EC c (nI (64 + v)) (z_set σ 101 4 (nI (x + 1)))) τ1 := ⟨hBo1, hCD1, hWF1⟩
      have hBL2 := BL_emit (v := 36) (o := 5) (a := 0) (s' := false :: t) hBL1 (.inr (.inr (.inr (.inr (.inr (.inl ⟨rfl, rfl⟩)))))) dep_36 (fun _ => ⟨by have := h.2.2.1; omega, v, by omega, by omega, by rw [show c + 1 - 1 = c by omega]; exact EC_104.2⟩)
      have hS1 : SF c σ τ (EC c (nI (64 + v)) (z_set σ 101 4 (nI (x + 1)))) τ1 := SF_trans (Nat.le_refl c) (SF_tok (QF_set (σ := σ) (v := nI (x + 1))) (MF_refl τ)) (SF_trans (Nat.le_refl c) (SF_emit (v := nI (64 + v)) (o := 0) (a := nI v)) (SF_tok (QF_refl _) y2))
      rw [if_neg (show ¬ nI v < 1 from nI_nlt (a := v) (b := 1) (by omega) (by omega)), if_neg (show ¬ 9999 < nI v from nI_nlt (a := 9999) (b := v) (by omega) (by omega)), if_neg (show ¬ nI v = 0 from fun z => by (have z : nI v = nI 0 := z; rw [nI_eq (by omega) (by omega)] at z; omega)), e12_unitN e17 v3 h.2.1.2.1 (by omega), y1, q_bnd, q_bnd, if_neg (show ¬ (0 : Int32) = -1 by decide), i_00, e12_emits (by omega) hBL1.2.1.2.1, q_bnd]
      refine ⟨EC (c + 1) 36 (EC c (nI (64 + v)) (z_set σ 101 4 (nI (x + 1)))), z_set σ 101 4 (nI (x + 1)), EC c (nI (64 + v)) (z_set σ 101 4 (nI (x + 1))), EM (c + 1) 5 0 τ1, v, rfl, ?_, e9_emit (by omega) hBL1.2.1.1, rfl, hBL2, SF_trans (by omega) hS1 SF_emit⟩
      rw [e64]
      exact e9_emit (by omega) hCD0.1
  · right
    unfold f12_readProduct_J51
    rw [if_neg a, if_neg e17, Bo_errs h.1, q_bnd]
    exact ⟨_, _, rfl, rfl, FA_here h.1.1 (by decide)⟩
theorem pv_e {pd : Nat} (h : pd = 1 ∨ pd = 2) : pv pd = nI (32 + pd) := by
  rcases h with rfl | rfl <;> rfl
/-- behind a unit: the rest of the sum -/
theorem r_sumL {w f : Nat} {s0 : List Bool} (hB : TkB n b N P K V L) (hs0 : s0.length ≤ 26) : ∀ (r x pd m p q v c : Nat) (σ τ : z_M), N - x = r → pd ≤ 2 → r < m → r < p → r < q → v ≤ x → c + w + min pd 1 ≤ x → BL n N b P K V L f c x (ps pd s0) σ τ → (∃ σ' τ' x' c', x ≤ x' ∧ c ≤ c' ∧ c' + w ≤ x' ∧ f3_readSum_L8 m (pv pd) (nI v) σ = some ((), σ') ∧ refP pd p q τ = some (0, τ') ∧ BL n N b P K V L f c' x' (false :: s0) σ' τ' ∧ SF c σ τ σ' τ') ∨ ∃ σ' τ', f3_readSum_L8 m (pv pd) (nI v) σ = some ((), σ') ∧ refP pd p q τ = some (-1, τ') ∧ FA N K V L σ τ σ' τ' := by
  intro r
  induction r using Nat.strongRecOn with
  | ind r ih =>
  intro x pd m p q v c σ τ hr hpd hm hp hq hv hcw h
  obtain ⟨hx, hN⟩ := Bo_N hB h.1
  obtain ⟨m, rfl⟩ : ∃ z, m = z + 1 := ⟨m - 1, by omega⟩
  obtain ⟨p, rfl⟩ : ∃ z, p = z + 1 := ⟨p - 1, by omega⟩
  have w42 : f12_isSign 42 τ = some (if K x = 35 then 1 else 0, τ) := e12_isSign (j := 3) h.1.2.1 (by omega)
  have w47 : f12_isSign 47 τ = some (if K x = 36 then 1 else 0, τ) := e12_isSign (j := 4) h.1.2.1 (by omega)
  have hlen : (ps pd s0).length ≤ 28 := Nat.le_trans ps_len (by omega)
  have hcl : f3_readSum_L8 (m + 1) (pv pd) (nI v) σ = if K x = 35 then z_bnd (f3_readUnit (z_set σ 101 4 (nI (x + 1)))) fun _ σ14 => z_bnd (f9_emit 102 35 σ14) fun _ σ16 => f3_readSum_L8 m (pv pd) (nI (v + 1)) σ16 else if K x = 36 then z_bnd (f3_number 1 9999 (z_set σ 101 4 (nI (x + 1)))) fun r6 σ7 => z_bnd (f9_emit 102 (64 + r6) σ7) fun _ σ9 => z_bnd (f9_emit 102 36 σ9) fun _ σ11 => f3_readSum_L8 m (pv pd) (nI (v + 1)) σ11 else if pv pd = -1 then f3_readSum_J118 (f3_readSum_L8 m) (nI v) (K x) σ else z_bnd (f9_emit 102 (pv pd) σ) fun _ σ4 => f3_readSum_J118 (f3_readSum_L8 m) (nI v) (K x) σ4 := by
    conv => lhs; unfold f3_readSum_L8
    rw [if_neg (show ¬ 400 < nI v from nI_nlt (a := 400) (b := v) (by omega) (by omega)), if_pos h.1.2.2, Bo_kind hB h.1, q_bnd, h.1.1.2.1, nI_1, nI_1, q_let, q_let]
  by_cases q35 : K x = 35
  · -- times
    have hlt := x_lt hB hx (by rw [q35]; decide)
    obtain ⟨τ1, y1, y2, y3, -⟩ := BL_next hB h (by rw [q35]; decide)
    rw [if_pos q35] at w42
    have href : refP pd (p + 1) q τ = z_bnd (z_bnd (f12_readUnit τ1) fun r1 σ2 => if r1 = -1 then some (-1, σ2) else z_bnd (f12_emits 4 0 σ2) fun _ σ2 => f12_readProduct_L10 p σ2) fun r τ1 => if r = -1 then some (-1, τ1) else refK pd q τ1 := by
      unfold refP
      conv => lhs; unfold f12_readProduct_L10
      unfold f12_readProduct_J28 f12_readProduct_J57 f12_readProduct_J74 f12_readProduct_J94
      rw [w42, q_bnd, i_10, w42, q_bnd, y1, q_bnd, i_10, i_10]
      rcases f12_readUnit τ1 with _ | ⟨r, s⟩
      · rfl
      · rw [q_bnd, q_bnd, i_10]
    rw [hcl, if_pos q35, href]
    rcases r_unit hB y2 (by omega) (by omega) with ⟨σ2, τ2, a1, a2, a3, a4⟩ | ⟨σ2, τ2, a1, a2, a3⟩
    · obtain ⟨hx2, -⟩ := Bo_N hB a3.1
      obtain ⟨t, ht⟩ := ps_cons (pd := pd) (s := s0)
      have hE := BL_emit (v := 35) (o := 4) (a := 0) (s' := ps pd s0) a3 (.inr (.inr (.inr (.inr (.inl ⟨rfl, rfl⟩))))) (by rw [ht]; exact dep_35) (fun z => absurd z (by decide))
      rw [a1, q_bnd, e9_emit (by omega) a3.2.1.1, q_bnd, a2, q_bnd, if_neg (show ¬ (0 : Int32) = -1 by decide), e12_emits (by omega) a3.2.1.2.1, q_bnd]
      have hS : SF c σ τ (EC (c + 1) 35 σ2) (EM (c + 1) 4 0 τ2) := SF_trans (Nat.le_refl c) y3 (SF_trans (by omega) a4 SF_emit)
      rcases ih (N - (x + 1 + 1)) (by omega) (x + 1 + 1) pd m p q (v + 1) (c + 1 + 1) _ _ rfl hpd (by omega) (by omega) (by omega) (by omega) (by omega) hE with ⟨σ', τ', x', c', c1, c2, c3, c4, c5, c6, c7⟩ | ⟨σ', τ', c1, c2, c3⟩
      · exact .inl ⟨σ', τ', x', c', by omega, by omega, c3, c4, c5, c6, SF_trans (by omega) hS c7⟩
      · exact .inr ⟨σ', τ', c1, c2, FA_SF hS (BL_DK hE (by omega)) c3⟩
    · right
      obtain ⟨σ3, d1, d2⟩ := e9_emitF (v := 35) (BL_DK y2 (by omega)) a3
      obtain ⟨m, rfl⟩ : ∃ z, m = z + 1 := ⟨m - 1, by omega⟩
      rw [a1, q_bnd, d1, q_bnd, e3_sumLF (FA_ne d2), a2, q_bnd, if_pos rfl, q_bnd, if_pos rfl]
      exact ⟨σ3, τ2, rfl, rfl, FA_SF y3 (BL_DK y2 (by omega)) d2⟩
  · by_cases q36 : K x = 36
    · -- parted
      have hlt := x_lt hB hx (by rw [q36]; decide)
      obtain ⟨τ1, y1, y2, y3, -⟩ := BL_next hB h (by rw [q36]; decide)
      obtain ⟨t, ht⟩ := ps_cons (pd := pd) (s := s0)
      rw [if_neg q35] at w42
      rw [if_pos q36] at w47
      have href : refP pd (p + 1) q τ = z_bnd (if τ1 0 17 = 3 then f12_readProduct_J57 (f12_readProduct_L10 p) 0 τ1 else f12_readProduct_J51 τ1) fun r τ1 => if r = -1 then some (-1, τ1) else refK pd q τ1 := by
        unfold refP
        conv => lhs; unfold f12_readProduct_L10
        unfold f12_readProduct_J28
        rw [w42, q_bnd, i_00, w47, q_bnd, i_10, w42, q_bnd, y1, q_bnd, i_00]
      rw [hcl, if_neg q35, if_pos q36, href]
      rw [ht] at y2 hlen
      rcases r_parted hB y2 (by omega) (by simp at hlen; omega) (f12_readProduct_L10 p) with ⟨σ', σ1, σ2, τ', u, a1, a2, a3, a4, a5, a6⟩ | ⟨σ1, τ', a1, a2, a3⟩
      · obtain ⟨hx2, -⟩ := Bo_N hB a5.1
        rw [← ht] at a5
        rw [a1, q_bnd, a2, q_bnd, a3, q_bnd, a4]
        have hS : SF c σ τ σ' τ' := SF_trans (Nat.le_refl c) y3 a6
        rcases ih (N - (x + 1 + 1)) (by omega) (x + 1 + 1) pd m p q (v + 1) (c + 2) _ _ rfl hpd (by omega) (by omega) (by omega) (by omega) (by omega) a5 with ⟨σ3, τ3, x', c', c1, c2, c3, c4, c5, c6, c7⟩ | ⟨σ3, τ3, c1, c2, c3⟩
        · exact .inl ⟨σ3, τ3, x', c', by omega, by omega, c3, c4, c5, c6, SF_trans (by omega) hS c7⟩
        · exact .inr ⟨σ3, τ3, c1, c2, FA_SF hS (BL_DK a5 (by omega)) c3⟩
      · right
        obtain ⟨σ3, d1, d2⟩ := e9_emitF (v := 64 + (-1)) (BL_DK y2 (by omega)) a3
        obtain ⟨σ4, d3, d4⟩ := e9_emitF (v := 36) (BL_DK y2 (by omega)) d2
        obtain ⟨m, rfl⟩ : ∃ z, m = z + 1 := ⟨m - 1, by omega⟩
        rw [a1, q_bnd, d1, q_bnd, d3, q_bnd, e3_sumLF (FA_ne d4), a2, q_bnd, if_pos rfl]
        exact ⟨σ4, τ', rfl, rfl, FA_SF y3 (BL_DK y2 (by omega)) d4⟩
    · -- the product ends
      obtain ⟨q, rfl⟩ : ∃ z, q = z + 1 := ⟨q - 1, by omega⟩
      obtain ⟨σ1, τ1, p1, p2, p3, p4⟩ := r_pend (q := q + 1) h hpd (by omega)
      have href : refP pd (p + 1) (q + 1) τ = f12_readSum_L10 (q + 1) τ1 := by
        unfold refP
        conv => lhs; unfold f12_readProduct_L10
        rw [w42, q_bnd, if_neg q35, i_00, w47, q_bnd, if_neg q36, i_00, q_bnd, if_neg (show ¬ (0 : Int32) = -1 by decide), p2]
      have hcl2 : f3_readSum_L8 (m + 1) (pv pd) (nI v) σ = f3_readSum_J118 (f3_readSum_L8 m) (nI v) (K x) σ1 := by
        rw [hcl, if_neg q35, if_neg q36]
        exact p1 (fun s => f3_readSum_J118 (f3_readSum_L8 m) (nI v) (K x) s)
      rw [hcl2, href]
      have w43 : f12_isSign 43 τ1 = some (if K x = 33 then 1 else 0, τ1) := e12_isSign (j := 1) p3.1.2.1 (by omega)
      have w45 : f12_isSign 45 τ1 = some (if K x = 34 then 1 else 0, τ1) := e12_isSign (j := 2) p3.1.2.1 (by omega)
      by_cases qs : ∃ pd', (pd' = 1 ∨ pd' = 2) ∧ K x = nI (32 + pd')
      · obtain ⟨pd', hp', qx⟩ := qs
        have hlt := x_lt hB hx (k43 (by omega) qx)
        obtain ⟨τ2, y1, y2, y3, -⟩ := BL_next hB p3 (k43 (by omega) qx)
        have hcl3 : f3_readSum_J118 (f3_readSum_L8 m) (nI v) (K x) σ1 = z_bnd (f3_readUnit (z_set σ1 101 4 (nI (x + 1)))) fun _ σ3 => f3_readSum_L8 m (pv pd') (nI (v + 1)) σ3 := by
          rw [pv_e hp']
          unfold f3_readSum_J118 f3_readSum_J131
          rw [p3.1.1.2.1, nI_1, nI_1, q_let, ← qx]
          rcases hp' with rfl | rfl
          · rw [if_pos (show K x = 33 from qx)]
          · rw [if_pos (show K x = 34 from qx), ite_self]
        have href3 : f12_readSum_L10 (q + 1) τ1 = z_bnd (z_bnd (f12_readUnit τ2) fun r1 σ2 => if r1 = -1 then some (-1, σ2) else f12_readProduct_L10 z_fu σ2) fun r3 σ4 => if r3 = -1 then some (-1, σ4) else z_bnd (f12_emits (nI (pd' + 1)) 0 σ4) fun _ σ6 => f12_readSum_L10 q σ6 := by
          have e18 := (AM_sg (j := pd') p3.1.2.1 (by omega) qx).2
          conv => lhs; unfold f12_readSum_L10
          unfold f12_readSum_J28 f12_readSum_J42 f12_readProduct
          rw [w43, q_bnd, w45, q_bnd, e18, y1, q_bnd, q_bnd]
          rcases hp' with rfl | rfl
          · rw [if_pos (show K x = 33 from qx), i_10]; rfl
          · rw [if_neg (show ¬ K x = 33 by rw [qx]; decide), i_00, if_pos (show K x = 34 from qx), i_10]; rfl
        rw [hcl3, href3]
        have hS2 : SF c σ τ (z_set σ1 101 4 (nI (x + 1))) τ2 := SF_trans (by omega) p4 y3
        rcases r_unit hB y2 (by omega) (by simp; omega) with ⟨σ2, τ3, a1, a2, a3, a4⟩ | ⟨σ2, τ3, a1, a2, a3⟩
        · obtain ⟨hx2, -⟩ := Bo_N hB a3.1
          rw [a1, q_bnd, a2, q_bnd, if_neg (show ¬ (0 : Int32) = -1 by decide)]
          have hps : false :: false :: s0 = ps pd' s0 := by rcases hp' with rfl | rfl <;> rfl
          rw [hps] at a3
          have hrefP : (z_bnd (f12_readProduct_L10 z_fu τ3) fun r3 σ4 => if r3 = -1 then some (-1, σ4) else z_bnd (f12_emits (nI (pd' + 1)) 0 σ4) fun _ σ6 => f12_readSum_L10 q σ6) = refP pd' z_fu q τ3 := by
            rcases hp' with rfl | rfl <;> rfl
          rw [hrefP]
          have hS : SF c σ τ σ2 τ3 := SF_trans (by omega) hS2 a4
          rcases ih (N - (x + 1 + 1)) (by omega) (x + 1 + 1) pd' m z_fu q (v + 1) (c + min pd 1 + 1) _ _ rfl (by omega) (by omega) (by unfold z_fu; omega) (by omega) (by omega) (by omega) a3 with ⟨σ', τ', x', c', c1, c2, c3, c4, c5, c6, c7⟩ | ⟨σ', τ', c1, c2, c3⟩
          · exact .inl ⟨σ', τ', x', c', by omega, by omega, c3, c4, c5, c6, SF_trans (by omega) hS c7⟩
          · exact .inr ⟨σ', τ', c1, c2, FA_SF hS (BL_DK a3 (by omega)) c3⟩
        · right
          obtain ⟨m, rfl⟩ : ∃ z, m = z + 1 := ⟨m - 1, by omega⟩
          rw [a1, q_bnd, e3_sumLF (FA_ne a3), a2, q_bnd, if_pos rfl, q_bnd, if_pos rfl]
          exact ⟨σ2, τ3, rfl, rfl, FA_SF hS2 (BL_DK y2 (by omega)) a3⟩
      · left
        have n33 : ¬ K x = 33 := fun z => qs ⟨1, .inl rfl, z⟩
        have n34 : ¬ K x = 34 := fun z => qs ⟨2, .inr rfl, z⟩
        refine ⟨σ1, τ1, x, c + min pd 1, Nat.le_refl x, by omega, by omega, ?_, ?_, p3, p4⟩
        · unfold f3_readSum_J118
          rw [if_neg n33, if_neg n34]
        · unfold f12_readSum_L10
          rw [w43, q_bnd, if_neg n33, i_00, w45, q_bnd, if_neg n34, i_00]
/-- a sum -/
theorem r_sum {w f c x : Nat} {s0 : List Bool} {σ τ : z_M} (hB : TkB n b N P K V L) (h : BL n N b P K V L f c x s0 σ τ) (hs0 : s0.length ≤ 26) (hcw : c + w ≤ x) : (∃ σ' τ' x' c', x < x' ∧ c ≤ c' ∧ c' + w ≤ x' ∧ f3_readSum σ = some ((), σ') ∧ f12_readSum τ = some (0, τ') ∧ BL n N b P K V L f c' x' (false :: s0) σ' τ' ∧ SF c σ τ σ' τ') ∨ ∃ σ' τ', f3_readSum σ = some ((), σ') ∧ f12_readSum τ = some (-1, τ') ∧ FA N K V L σ τ σ' τ' := by
  obtain ⟨hx, hN⟩ := Bo_N hB h.1
  have hfu : z_fu = 1000 := rfl
  unfold f3_readSum f12_readSum f12_readProduct
  by_cases q43 : K x = 43
  · -- at the end
    right
    have n42 : ¬ K x = 42 := by rw [q43]; decide
    have e17 := (AM_end h.1.2.1).mpr q43
    have hu : f3_readUnit σ = some ((), FC σ 1 (L x)) := by
      unfold f3_readUnit
      rw [if_pos h.1.2.2, Bo_kind hB h.1, q_bnd, if_neg n42, Bo_kind hB h.1, q_bnd, q43, if_pos (show (7 : Int32) < 43 by decide), Bo_fail 1 hB h.1, q_bnd]
    have hm : f12_readUnit τ = some (-1, FM τ 1 (L x)) := by
      unfold f12_readUnit f12_readUnit_J23 f12_readUnit_J24
      rw [e17, if_neg (by decide), i_00, if_neg (by decide), Bo_errs h.1, q_bnd]
    rw [hu, hm, q_bnd, q_bnd, if_pos rfl, q_bnd, if_pos rfl]
    exact ⟨_, _, e3_sumLF (m := 999) (FC_f (by decide)), rfl, FA_here h.1.1 (by decide)⟩
  · have hlt := x_lt hB hx q43
    rcases r_unit hB h (by omega) (by omega) with ⟨σ2, τ2, a1, a2, a3, a4⟩ | ⟨σ2, τ2, a1, a2, a3⟩
    · rw [a1, a2, q_bnd, q_bnd, if_neg (show ¬ (0 : Int32) = -1 by decide)]
      rcases r_sumL (w := w) (s0 := s0) hB hs0 (N - (x + 1)) (x + 1) 0 z_fu z_fu z_fu 0 (c + 1) σ2 τ2 rfl (by omega) (by omega) (by omega) (by omega) (by omega) (by omega) a3 with ⟨σ', τ', x', c', c1, c2, c3, c4, c5, c6, c7⟩ | ⟨σ', τ', c1, c2, c3⟩
      · exact .inl ⟨σ', τ', x', c', by omega, by omega, c3, c4, c5, c6, SF_trans (by omega) a4 c7⟩
      · exact .inr ⟨σ', τ', c1, c2, FA_SF a4 (BL_DK a3 (by omega)) c3⟩
    · right
      rw [a1, a2, q_bnd, q_bnd, if_pos rfl, q_bnd, if_pos rfl]
      exact ⟨σ2, τ2, e3_sumLF (m := 999) (FA_ne a3), rfl, a3⟩
end
