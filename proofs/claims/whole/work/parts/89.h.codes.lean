/-! the law: codes, units -/
/-- the codes told so far, on both sides -/
def CD (c : Nat) (σ τ : z_M) : Prop := σ 102 3 = nI c ∧ τ 0 28 = nI c ∧ ∀ i, i < c → C_rel (σ 104 i) (τ 14 (800 + i)) (τ 15 (800 + i))
/-- the codes from f to c, run: s lies on the stack -/
def WF (f c : Nat) (cd : Nat → Int32) (s : List Bool) : Prop := f ≤ c ∧ C_run cd (c - f) f [] = some s ∧ ∀ i, f ≤ i → i < c → cd i = 36 → f < i ∧ ∃ v, 1 ≤ v ∧ v ≤ 9999 ∧ cd (i - 1) = nI (64 + v)
theorem C_run_cong {cd cd' : Nat → Int32} : ∀ (r i : Nat) (s : List Bool), (∀ j, i ≤ j → j < i + r → cd' j = cd j) → C_run cd' r i s = C_run cd r i s
  | 0, _, _, _ => rfl
  | r + 1, i, s, h => by
    show (C_dep (cd' i) s).bind (C_run cd' r (i + 1)) = (C_dep (cd i) s).bind (C_run cd r (i + 1))
    rw [h i (by omega) (by omega), show C_run cd' r (i + 1) = C_run cd r (i + 1) from funext fun s' => C_run_cong r (i + 1) s' (fun j a c => h j (by omega) (by omega))]
theorem C_run_snoc {cd : Nat → Int32} : ∀ (r i : Nat) (s s1 : List Bool), C_run cd r i s = some s1 → C_run cd (r + 1) i s = C_dep (cd (i + r)) s1
  | 0, i, s, s1, h => by
    have e : s = s1 := Option.some.inj h
    subst e
    show (C_dep (cd i) s).bind (C_run cd 0 (i + 1)) = C_dep (cd i) s
    rcases C_dep (cd i) s with _ | s2 <;> rfl
  | r + 1, i, s, s1, h => by
    have h : (C_dep (cd i) s).bind (C_run cd r (i + 1)) = some s1 := h
    show (C_dep (cd i) s).bind (C_run cd (r + 1) (i + 1)) = _
    rcases e : C_dep (cd i) s with _ | s2
    · rw [e] at h; exact absurd h (by simp)
    · rw [e] at h
      have h : C_run cd r (i + 1) s2 = some s1 := h
      show C_run cd (r + 1) (i + 1) s2 = _
      rw [C_run_snoc r (i + 1) s2 s1 h, show i + 1 + r = i + (r + 1) by omega]
theorem WF_push {f c : Nat} {cd cd' : Nat → Int32} {s s' : List Bool} {v : Int32} (h : WF f c cd s) (hd : C_dep v s = some s') (h36 : v = 36 → f < c ∧ ∃ u, 1 ≤ u ∧ u ≤ 9999 ∧ cd (c - 1) = nI (64 + u)) (e : ∀ i, i < c → cd' i = cd i) (ev : cd' c = v) : WF f (c + 1) cd' s' := by
  obtain ⟨h1, h2, h3⟩ := h
  refine ⟨by omega, ?_, fun i i1 i2 i3 => ?_⟩
  · rw [show c + 1 - f = c - f + 1 by omega, C_run_snoc (c - f) f [] s (by rw [C_run_cong (cd := cd) (c - f) f [] (fun j _ a => e j (by omega))]; exact h2), show f + (c - f) = c by omega, ev]
    exact hd
  · by_cases q : i = c
    · rw [q, ev] at i3
      obtain ⟨a1, u, a2, a3, a4⟩ := h36 i3
      exact ⟨by omega, u, a2, a3, by rw [e _ (by omega), q]; exact a4⟩
    · rw [e i (by omega)] at i3
      obtain ⟨a1, u, a2, a3, a4⟩ := h3 i i1 (by omega) i3
      exact ⟨a1, u, a2, a3, by rw [e _ (by omega)]; exact a4⟩
theorem WF_cong {f c : Nat} {cd cd' : Nat → Int32} {s : List Bool} (h : WF f c cd s) (e : ∀ i, i < c → cd' i = cd i) : WF f c cd' s := by
  obtain ⟨h1, h2, h3⟩ := h
  refine ⟨h1, by rw [C_run_cong (cd := cd) (c - f) f [] (fun j _ a => e j (by omega))]; exact h2, fun i i1 i2 i3 => ?_⟩
  rw [e i i2] at i3
  obtain ⟨a1, u, a2, a3, a4⟩ := h3 i i1 i2 i3
  exact ⟨a1, u, a2, a3, by rw [e _ (by omega)]; exact a4⟩
theorem WF_nil {f : Nat} {cd : Nat → Int32} : WF f f cd [] := ⟨by omega, by rw [Nat.sub_self]; rfl, fun i a c => by omega⟩
theorem C_ok_WF {f c : Nat} {cd : Nat → Int32} {x : Bool} (h : WF f c cd [x]) : C_ok cd f c := ⟨h.1, ⟨x, h.2.1⟩, h.2.2⟩
theorem C_ok_cong {f c : Nat} {cd cd' : Nat → Int32} (h : C_ok cd f c) (e : ∀ i, i < c → cd' i = cd i) : C_ok cd' f c := by
  obtain ⟨h1, ⟨x, h2⟩, h3⟩ := h
  have w : WF f c cd' [x] := WF_cong ⟨h1, h2, h3⟩ e
  exact C_ok_WF w
/-- what a code does to the stack -/
theorem dep_num {v : Nat} {s : List Bool} (hv : v < 10000) (hs : s.length < 30) : C_dep (nI (64 + v)) s = some (false :: s) := by
  unfold C_dep
  rw [if_pos (.inl (show (64 : Int32) ≤ nI (64 + v) from nI_le (a := 64) (b := 64 + v) (by omega) (by omega))), if_pos hs]
theorem dep_ask {k : Nat} {s : List Bool} (hk : k < 8) (hs : s.length < 30) : C_dep (nI k) s = some (false :: s) := by
  unfold C_dep
  rw [if_pos (.inr (show nI k ≤ (7 : Int32) from nI_le (a := k) (b := 7) (by omega) (by omega))), if_pos hs]
theorem dep_33 {x y : Bool} {s : List Bool} : C_dep 33 (x :: y :: s) = some (false :: s) := rfl
theorem dep_34 {x y : Bool} {s : List Bool} : C_dep 34 (x :: y :: s) = some (false :: s) := rfl
theorem dep_35 {x y : Bool} {s : List Bool} : C_dep 35 (x :: y :: s) = some (false :: s) := rfl
theorem dep_36 {x y : Bool} {s : List Bool} : C_dep 36 (x :: y :: s) = some (false :: s) := rfl
theorem dep_39 {x y : Bool} {s : List Bool} : C_dep 39 (x :: y :: s) = some (true :: s) := rfl
theorem dep_40 {x y : Bool} {s : List Bool} : C_dep 40 (x :: y :: s) = some (true :: s) := rfl
theorem dep_41 {x y : Bool} {s : List Bool} : C_dep 41 (x :: y :: s) = some (true :: s) := rfl
theorem dep_14 {s : List Bool} : C_dep 14 (true :: s) = some (true :: s) := rfl
theorem dep_13 {s : List Bool} : C_dep 13 (true :: true :: s) = some (true :: s) := rfl
theorem dep_12 {s : List Bool} : C_dep 12 (true :: true :: s) = some (true :: s) := rfl
/-- a code is put, on both sides -/
def EC (c : Nat) (v : Int32) (σ : z_M) : z_M := z_set (z_set σ 104 c v) 102 3 (nI (c + 1))
def EM (c : Nat) (o a : Int32) (τ : z_M) : z_M := z_set (z_set (z_set τ 14 (800 + c) o) 15 (800 + c) a) 0 28 (nI (c + 1))
theorem e9_emit {c : Nat} {v : Int32} {σ : z_M} (hc : c < 400) (h : σ 102 3 = nI c) : f9_emit 102 v σ = some ((), EC c v σ) := by
  have es : S1.2.1 (102 + 2) = 400 := rfl
  unfold f9_emit
  rw [h, es, if_pos (show nI c < Int32.ofNat 400 from nI_lt (a := c) (b := 400) hc (by omega)), k_cin _ hc (by omega), q_ix (by omega), q_let, s_ne (by omega), h, nI_1, q_let]
  rfl
theorem e12_emits {c : Nat} {o a : Int32} {τ : z_M} (hc : c < 400) (h : τ 0 28 = nI c) : f12_emits o a τ = some ((), EM c o a τ) := by
  have e8 : (800 : Int32) + nI c = nI (800 + c) := by show nI 800 + nI c = _; rw [nI_add]
  unfold f12_emits EM
  rw [h, e8, k_cin _ (by omega) (by omega), q_ix (by omega), q_let, s_ne (by omega), h, e8, k_cin _ (by omega) (by omega), q_ix (by omega), q_let, s_ne (by omega), s_ne (by omega), h, nI_1, q_let]
theorem CD_emit {c : Nat} {v o a : Int32} {σ τ : z_M} (h : CD c σ τ) (hr : C_rel v o a) : CD (c + 1) (EC c v σ) (EM c o a τ) := by
  unfold EC EM
  refine ⟨s_eq, s_eq, fun i hi => ?_⟩
  rw [s_ne (show 104 ≠ 102 by omega), s_ne (show 14 ≠ 0 by omega), s_ne (show 14 ≠ 15 by omega), s_ne (show 15 ≠ 0 by omega)]
  by_cases q : i = c
  · rw [q, s_eq, s_eq, s_eq]; exact hr
  · rw [s_kn q, s_kn (by omega), s_kn (by omega), s_ne (show 15 ≠ 14 by omega)]; exact h.2.2 i (by omega)
theorem CD_cong {c : Nat} {σ τ σ' τ' : z_M} (h : CD c σ τ) (e1 : σ' 102 3 = σ 102 3) (e2 : σ' 104 = σ 104) (e3 : τ' 0 28 = τ 0 28) (e4 : τ' 14 = τ 14) (e5 : τ' 15 = τ 15) : CD c σ' τ' := ⟨e1.trans h.1, e3.trans h.2.1, fun i hi => by rw [e2, e4, e5]; exact h.2.2 i hi⟩
theorem EC_104 {c : Nat} {v : Int32} {σ : z_M} : (∀ i, i < c → EC c v σ 104 i = σ 104 i) ∧ EC c v σ 104 c = v := by
  unfold EC
  exact ⟨fun i hi => by rw [s_ne (by omega), s_kn (by omega)], by rw [s_ne (by omega), s_eq]⟩
/-- what a sum may change -/
def SF (c : Nat) (σ τ σ' τ' : z_M) : Prop := (∀ d, d ≠ 101 → d ≠ 102 → d ≠ 104 → σ' d = σ d) ∧ (∀ s, s ≠ 4 → σ' 101 s = σ 101 s) ∧ (∀ s, s ≠ 3 → σ' 102 s = σ 102 s) ∧ (∀ i, i < c → σ' 104 i = σ 104 i) ∧ (∀ d, d ≠ 0 → d ≠ 14 → d ≠ 15 → τ' d = τ d) ∧ (∀ k, k < 15 ∨ (18 < k ∧ k ≠ 28) → τ' 0 k = τ 0 k) ∧ ∀ i, i < 800 → τ' 14 i = τ 14 i ∧ τ' 15 i = τ 15 i
theorem SF_trans {c c' : Nat} {σ τ σ' τ' σ'' τ'' : z_M} (hc : c ≤ c') (h : SF c σ τ σ' τ') (g : SF c' σ' τ' σ'' τ'') : SF c σ τ σ'' τ'' := by
  obtain ⟨h1, h2, h3, h4, h5, h6, h7⟩ := h
  obtain ⟨g1, g2, g3, g4, g5, g6, g7⟩ := g
  exact ⟨fun d a c e => (g1 d a c e).trans (h1 d a c e), fun s a => (g2 s a).trans (h2 s a), fun s a => (g3 s a).trans (h3 s a), fun i a => (g4 i (by omega)).trans (h4 i a), fun d a c e => (g5 d a c e).trans (h5 d a c e), fun k a => (g6 k a).trans (h6 k a), fun i a => ⟨(g7 i a).1.trans (h7 i a).1, (g7 i a).2.trans (h7 i a).2⟩⟩
theorem SF_tok {c : Nat} {σ τ σ' τ' : z_M} (h : QF σ σ') (g : MF τ τ') : SF c σ τ σ' τ' := ⟨fun d a _ _ => h.1 d a, h.2, fun s _ => by rw [h.1 102 (by omega)], fun i _ => by rw [h.1 104 (by omega)], fun d a _ _ => g.1 d a, fun k a => g.2 k (by omega), fun i _ => by rw [g.1 14 (by omega), g.1 15 (by omega)]; exact ⟨rfl, rfl⟩⟩
theorem SF_emit {c : Nat} {v o a : Int32} {σ τ : z_M} : SF c σ τ (EC c v σ) (EM c o a τ) := by
  unfold EC EM
  refine ⟨fun d a c e => by rw [s_ne c, s_ne e], fun s _ => by rw [s_ne (by omega), s_ne (by omega)], fun s a => by rw [s_kn a, s_ne (by omega)], fun i a => by rw [s_ne (by omega), s_kn (by omega)], fun d a c e => by rw [s_ne a, s_ne e, s_ne c], fun k a => by rw [s_kn (by omega), s_ne (by omega), s_ne (by omega)], fun i a => ⟨by rw [s_ne (by omega), s_ne (by omega), s_kn (by omega)], by rw [s_ne (by omega), s_kn (by omega), s_ne (by omega)]⟩⟩
theorem SF_XC {c : Nat} {σ τ σ' τ' : z_M} (h : SF c σ τ σ' τ') : XC σ σ' := ⟨fun d a => h.1 d (by omega) (by omega) (by omega), h.2.1 5 (by omega), h.2.1 6 (by omega)⟩
theorem SF_XM {c : Nat} {σ τ σ' τ' : z_M} (h : SF c σ τ σ' τ') : XM τ τ' := by
  obtain ⟨h1, h2, h3, h4, h5, h6, h7⟩ := h
  exact ⟨fun d a _ => h5 d a (by omega) (by omega), fun k a => h6 k (by omega), fun d a _ i _ => by rw [h5 d (by omega) (by omega) (by omega)], h7, fun i _ => by rw [h5 17 (by omega) (by omega) (by omega)], fun i _ => by rw [h5 18 (by omega) (by omega) (by omega)], fun i _ => by rw [h5 19 (by omega) (by omega) (by omega)]⟩
/-- both stand at token x with c codes, s lies on the stack -/
def BL (n N : Nat) (b P : Nat → Nat) (K V L : Nat → Int32) (f c x : Nat) (s : List Bool) (σ τ : z_M) : Prop := Bo n N b P K V L x σ τ ∧ CD c σ τ ∧ WF f c (σ 104) s
section
variable {n N : Nat} {b P : Nat → Nat} {K V L : Nat → Int32}
theorem Bo_emit {c x : Nat} {v o a : Int32} {σ τ : z_M} (h : Bo n N b P K V L x σ τ) : Bo n N b P K V L x (EC c v σ) (EM c o a τ) := by
  unfold EC EM
  obtain ⟨⟨a1, a2, a3, a4, a5⟩, h2, h3⟩ := h
  refine ⟨⟨a1, ?_, ?_, ?_, ?_⟩, AM_cong h2 ?_ ?_ (fun k _ _ => ?_), ?_⟩
  · rw [s_ne (by omega), s_ne (by omega)]; exact a2
  · rw [s_ne (by omega), s_ne (by omega)]; exact a3
  · rw [s_ne (by omega), s_ne (by omega)]; exact a4
  · rw [s_ne (by omega), s_ne (by omega)]; exact a5
  · rw [s_ne (by omega), s_ne (by omega), s_ne (by omega)]
  · rw [s_ne (by omega), s_ne (by omega), s_ne (by omega)]
  · rw [s_kn (by omega), s_ne (by omega), s_ne (by omega)]
  · rw [s_ne (by omega), s_ne (by omega)]; exact h3
theorem BL_emit {f c x : Nat} {v o a : Int32} {s s' : List Bool} {σ τ : z_M} (h : BL n N b P K V L f c x s σ τ) (hr : C_rel v o a) (hd : C_dep v s = some s') (h36 : v = 36 → f < c ∧ ∃ u, 1 ≤ u ∧ u ≤ 9999 ∧ σ 104 (c - 1) = nI (64 + u)) : BL n N b P K V L f (c + 1) x s' (EC c v σ) (EM c o a τ) := ⟨Bo_emit h.1, CD_emit h.2.1 hr, WF_push h.2.2 hd h36 EC_104.1 EC_104.2⟩
theorem BL_next {f c x : Nat} {s : List Bool} {σ τ : z_M} (hB : TkB n b N P K V L) (h : BL n N b P K V L f c x s σ τ) (hk : ¬ K x = 43) : ∃ τ', f12_reads τ = some ((), τ') ∧ BL n N b P K V L f c (x + 1) s (z_set σ 101 4 (nI (x + 1))) τ' ∧ SF c σ τ (z_set σ 101 4 (nI (x + 1))) τ' ∧ MF τ τ' := by
  obtain ⟨τ', y1, y2, y3⟩ := Bo_next hB h.1 hk
  exact ⟨τ', y1, ⟨y3, CD_cong h.2.1 (by rw [s_ne (by omega)]) (s_ne (by omega)) (y2.2 28 (by omega)) (y2.1 14 (by omega)) (y2.1 15 (by omega)), by rw [s_ne (by omega)]; exact h.2.2⟩, SF_tok QF_set y2, y2⟩
theorem BL_DK {f c x : Nat} {s : List Bool} {σ τ : z_M} (h : BL n N b P K V L f c x s σ τ) (hc : c ≤ 400) : DK σ := ⟨c, hc, h.2.1.1⟩
/-- a fault behind a piece that went well -/
theorem FA_SF {c : Nat} {σ τ σ1 τ1 σ' τ' : z_M} (h : SF c σ τ σ1 τ1) (hd : DK σ1) (g : FA N K V L σ1 τ1 σ' τ') : FA N K V L σ τ σ' τ' := FA_trans (SF_XC h) (SF_XM h) (fun _ => hd) g
/-- the class puts a code behind a fault -/
theorem e9_emitF {v : Int32} {σ τ σ' τ' : z_M} (hd : DK σ) (h : FA N K V L σ τ σ' τ') : ∃ σ'', f9_emit 102 v σ' = some ((), σ'') ∧ FA N K V L σ τ σ'' τ' := by
  obtain ⟨⟨f, p, a1, a2, a3, a4, a5, a6, a7⟩, ⟨y, y1, y2, y3, y4, y5⟩, h3⟩ := h
  obtain ⟨c, hc, e⟩ := h3 hd
  by_cases q : c < 400
  · refine ⟨EC c v σ', e9_emit q e, ⟨f, p, a1, ?_, ?_, a4, a5, ?_, a7⟩, ⟨y, y1, ?_, ?_, ?_, ?_⟩, fun _ => ⟨c + 1, by omega, ?_⟩⟩ <;> unfold EC
    · rw [s_ne (by omega), s_ne (by omega)]; exact a2
    · rw [s_ne (by omega), s_ne (by omega)]; exact a3
    · exact XC_trans a6 (XC_trans (XC_c (by omega)) (XC_c (by omega)))
    · rw [s_ne (by omega), s_ne (by omega)]; exact y2
    · rw [s_ne (by omega), s_ne (by omega)]; exact y3
    · rw [s_ne (by omega), s_ne (by omega)]; exact y4
    · rw [s_ne (by omega), s_ne (by omega)]; exact y5
    · exact s_eq
  · refine ⟨σ', ?_, ⟨f, p, a1, a2, a3, a4, a5, a6, a7⟩, ⟨y, y1, y2, y3, y4, y5⟩, fun _ => ⟨c, hc, e⟩⟩
    have es : S1.2.1 (102 + 2) = 400 := rfl
    unfold f9_emit
    rw [e, es, if_neg (show ¬ nI c < Int32.ofNat 400 from nI_nlt (a := c) (b := 400) (by omega) (by omega))]
theorem AM_5 {x : Nat} {τ : z_M} (hm : AM n b P K V L x τ) : (K x = 42 ∧ τ 0 17 = 3 ∧ ∃ v, v < 10000 ∧ V x = nI v ∧ τ 0 18 = nI v) ∨ (∃ j, j < 28 ∧ K x = nI j ∧ τ 0 17 = 2 ∧ τ 0 18 = nI (wp j)) ∨ (¬ K x = 42 ∧ 7 < K x ∧ ¬ τ 0 17 = 2 ∧ ¬ τ 0 17 = 3) := by
  obtain ⟨-, -, -, -, t⟩ := hm
  rcases t with ⟨a, c⟩ | ⟨a, c⟩ | ⟨a, c, d⟩ | ⟨i, i1, a, c, d⟩ | ⟨i, i1, a, c, d⟩
  · rw [a, c]; exact .inr (.inr ⟨by decide, by decide, by decide, by decide⟩)
  · rw [a, c]; exact .inr (.inr ⟨by decide, by decide, by decide, by decide⟩)
  · exact .inl ⟨a, c, d⟩
  · exact .inr (.inl ⟨i, i1, a, c, d⟩)
  · rw [a, c]; exact .inr (.inr ⟨fun z => by (have z : nI (32 + i) = nI 42 := z; rw [nI_eq (by omega) (by omega)] at z; omega), nI_lt (a := 7) (b := 32 + i) (by omega) (by omega), by decide, by decide⟩)
theorem v_ask : ∀ j, j < 28 → (if nI (wp j) < 7 then (0 : Int32) else if 14 < nI (wp j) then 0 else 1) = if j < 8 then 1 else 0 := by decide +kernel
theorem v_ask7 : ∀ j, j < 8 → nI (wp j) - 7 = nI j := by decide +kernel
/-- the reference's unit that is a number -/
theorem e12_unitN {c v : Nat} {τ : z_M} (h17 : τ 0 17 = 3) (h18 : τ 0 18 = nI v) (h28 : τ 0 28 = nI c) (hc : c < 400) : f12_readUnit τ = z_bnd (f12_reads (EM c 0 (nI v) τ)) fun _ σ4 => some (0, σ4) := by
  unfold f12_readUnit f12_readUnit_J23 f12_readUnit_J24 f12_readUnit_J43 f12_readUnit_J53 f12_readUnit_J71
  rw [if_neg (show ¬ τ 0 17 = 2 by rw [h17]; decide), i_00, if_pos h17, i_00, i_00, h18, e12_emits hc h28, q_bnd]
/-- a unit -/
theorem r_unit {f c x : Nat} {s : List Bool} {σ τ : z_M} (hB : TkB n b N P K V L) (h : BL n N b P K V L f c x s σ τ) (hc : c < 400) (hs : s.length < 30) : (∃ σ' τ', f3_readUnit σ = some ((), σ') ∧ f12_readUnit τ = some (0, τ') ∧ BL n N b P K V L f (c + 1) (x + 1) (false :: s) σ' τ' ∧ SF c σ τ σ' τ') ∨ ∃ σ' τ', f3_readUnit σ = some ((), σ') ∧ f12_readUnit τ = some (-1, τ') ∧ FA N K V L σ τ σ' τ' := by
  obtain ⟨hx, hN⟩ := Bo_N hB h.1
  unfold f3_readUnit
  rw [if_pos h.1.2.2, Bo_kind hB h.1, q_bnd]
  rcases AM_5 h.1.2.1 with ⟨a, e17, v, v1, v2, v3⟩ | ⟨j, hj, a, e17, e18⟩ | ⟨a1, a2, a3, a4⟩
  · left
    have e64 : (64 : Int32) + nI v = nI (64 + v) := by show nI 64 + nI v = _; rw [nI_add]
    have hE := BL_emit (v := nI (64 + v)) (o := 0) (a := nI v) h (.inl ⟨v, by omega, rfl, rfl, rfl⟩) (dep_num v1 hs) (fun z => by (have z : nI (64 + v) = nI 36 := z; rw [nI_eq (by omega) (by omega)] at z; omega))
    obtain ⟨τ', y1, y2, y3, -⟩ := BL_next hB hE (by rw [a]; decide)
    rw [if_pos a, h.1.1.2.1, k_cin _ (by omega) (by omega), q_ix (by omega), h.1.1.2.2.2.1, v2, e64, e9_emit hc h.2.1.1, q_bnd, hE.1.1.2.1, nI_1, q_let, e12_unitN e17 v3 h.2.1.2.1 hc, y1, q_bnd]
    exact ⟨_, τ', rfl, rfl, y2, SF_trans (by omega) SF_emit y3⟩
  · have n42 : ¬ K x = 42 := fun z => by (rw [a] at z; have z : nI j = nI 42 := z; rw [nI_eq (by omega) (by omega)] at z; omega)
    unfold f12_readUnit f12_canAsk
    rw [if_neg n42, Bo_kind hB h.1, q_bnd, if_pos e17, e18, e12_isIn, q_bnd, v_ask j hj]
    by_cases q : j < 8
    · left
      have hE := BL_emit (v := nI j) (o := 1) (a := nI j) h (.inr (.inl ⟨j, q, rfl, rfl, rfl⟩)) (dep_ask q hs) (fun z => by (have z : nI j = nI 36 := z; rw [nI_eq (by omega) (by omega)] at z; omega))
      obtain ⟨τ', y1, y2, y3, -⟩ := BL_next hB hE (k43 (by omega) a)
      unfold f12_readUnit_J24 f12_readUnit_J43 f12_readUnit_J53 f12_readUnit_J71
      rw [if_pos q, q_chk _ (by decide), q_bnd, i_10, i_10, i_10, i_10, e18, v_ask7 j q, e12_emits hc h.2.1.2.1, q_bnd, y1, q_bnd, a, if_neg (show ¬ 7 < nI j from nI_nlt (a := 7) (b := j) (by omega) (by omega)), Bo_kind hB h.1, q_bnd, a, e9_emit hc h.2.1.1, q_bnd, hE.1.1.2.1, nI_1, q_let]
      exact ⟨_, τ', rfl, rfl, y2, SF_trans (by omega) SF_emit y3⟩
    · right
      unfold f12_readUnit_J23 f12_readUnit_J24
      rw [if_neg q, q_chk _ (by decide), q_bnd, i_00, i_00, if_neg (show ¬ τ 0 17 = 3 by rw [e17]; decide), Bo_errs h.1, q_bnd, a, if_pos (show 7 < nI j from nI_lt (a := 7) (b := j) (by omega) (by omega)), Bo_fail 1 hB h.1, q_bnd]
      exact ⟨_, _, rfl, rfl, FA_here h.1.1 (by decide)⟩
  · right
    unfold f12_readUnit f12_readUnit_J23 f12_readUnit_J24
    rw [if_neg a1, Bo_kind hB h.1, q_bnd, if_pos a2, Bo_fail 1 hB h.1, q_bnd, if_neg a3, i_00, if_neg a4, Bo_errs h.1, q_bnd]
    exact ⟨_, _, rfl, rfl, FA_here h.1.1 (by decide)⟩
end
