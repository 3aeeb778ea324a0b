/-! the law's conditions: what waits -/
/-- the reference's number of what waits: or 11, and 10, not 9, ( 12 -/
def rop (w : Nat) : Nat := if w = 12 then 11 else if w = 13 then 10 else if w = 14 then 9 else 12
def StR : List Nat → (Nat → Int32) → (Nat → Int32) → Prop
  | [], _, _ => True
  | w :: W, f, g => f W.length = nI w ∧ g W.length = nI (rop w) ∧ StR W f g
def hd : List Nat → Nat
  | [] => 0
  | w :: _ => w
def hW : List Nat → Nat
  | [] => 0
  | w :: _ => if w = 37 then 0 else if w = 12 then 1 else 2
/-- an and stands on no and or not, an or on none of the three -/
def wR : List Nat → Prop
  | [] => True
  | w :: W => (w = 14 ∨ w = 37 ∨ (w = 13 ∧ hW W ≤ 1) ∨ (w = 12 ∧ hW W = 0)) ∧ wR W
def cJ : List Nat → Nat
  | [] => 0
  | w :: W => (if w = 12 ∨ w = 13 then 1 else 0) + cJ W
def cO : List Nat → Nat
  | [] => 0
  | w :: W => (if w = 14 ∨ w = 37 then 1 else 0) + cO W
def cP : List Nat → Nat
  | [] => 0
  | w :: W => (if w = 37 then 1 else 0) + cP W
theorem hW_le (W : List Nat) : hW W ≤ 2 := by
  rcases W with _ | ⟨w, W⟩
  · show 0 ≤ 2; omega
  · show (if w = 37 then 0 else if w = 12 then 1 else 2) ≤ 2
    split
    · omega
    · split <;> omega
theorem wR_count : ∀ W, wR W → W.length = cJ W + cO W ∧ cJ W ≤ 2 * cP W + hW W ∧ cP W ≤ cO W
  | [], _ => ⟨rfl, by show 0 ≤ _; omega, Nat.le_refl 0⟩
  | w :: W, h => by
    obtain ⟨h1, h2, h3⟩ := wR_count W h.2
    have hh := hW_le W
    have e1 : (w :: W).length = W.length + 1 := rfl
    have e2 : cJ (w :: W) = (if w = 12 ∨ w = 13 then 1 else 0) + cJ W := rfl
    have e3 : cO (w :: W) = (if w = 14 ∨ w = 37 then 1 else 0) + cO W := rfl
    have e4 : cP (w :: W) = (if w = 37 then 1 else 0) + cP W := rfl
    have e5 : hW (w :: W) = if w = 37 then 0 else if w = 12 then 1 else 2 := rfl
    rw [e1, e2, e3, e4, e5]
    rcases h.1 with rfl | rfl | ⟨rfl, q⟩ | ⟨rfl, q⟩
    · simp; omega
    · simp; omega
    · simp; omega
    · simp; omega
theorem StR_cong {f g f' g' : Nat → Int32} : ∀ W, StR W f g → (∀ i, i < W.length → f' i = f i ∧ g' i = g i) → StR W f' g'
  | [], _, _ => trivial
  | w :: W, h, e => ⟨(e W.length (by show W.length < W.length + 1; omega)).1.trans h.1, (e W.length (by show W.length < W.length + 1; omega)).2.trans h.2.1, StR_cong W h.2.2 (fun i hi => e i (by show i < W.length + 1; omega))⟩
def Sw (W : List Nat) (σ τ : z_M) : Prop := wR W ∧ StR W (σ 105) (τ 16) ∧ σ 101 8 = nI W.length ∧ τ 0 31 = nI W.length
def Op (o : Nat) (σ τ : z_M) : Prop := o ≤ 8 ∧ σ 101 9 = nI o ∧ τ 0 29 = nI o
theorem Sw_cong {W : List Nat} {σ τ σ' τ' : z_M} (h : Sw W σ τ) (e1 : σ' 105 = σ 105) (e2 : σ' 101 8 = σ 101 8) (e3 : τ' 16 = τ 16) (e4 : τ' 0 31 = τ 0 31) : Sw W σ' τ' := ⟨h.1, by rw [e1, e3]; exact h.2.1, e2.trans h.2.2.1, e4.trans h.2.2.2⟩
theorem Op_cong {o : Nat} {σ τ σ' τ' : z_M} (h : Op o σ τ) (e1 : σ' 101 9 = σ 101 9) (e2 : τ' 0 29 = τ 0 29) : Op o σ' τ' := ⟨h.1, e1.trans h.2.1, e2.trans h.2.2⟩
theorem Sw_len {W : List Nat} {σ τ : z_M} (h : Sw W σ τ) (ho : cO W ≤ 8) : W.length ≤ 26 ∧ cJ W ≤ 18 := by
  obtain ⟨h1, h2, h3⟩ := wR_count W h.1
  have := hW_le W
  omega
def tr (k : Nat) : List Bool := List.replicate k true
theorem tr_s (k : Nat) : tr (k + 1) = true :: tr k := rfl
theorem tr_len (k : Nat) : (tr k).length = k := List.length_replicate
/-- what a condition may change -/
def VF (c : Nat) (σ τ σ' τ' : z_M) : Prop := (∀ d, d ≠ 101 → d ≠ 102 → d ≠ 104 → d ≠ 105 → σ' d = σ d) ∧ (∀ s, s ≠ 4 → s ≠ 8 → s ≠ 9 → σ' 101 s = σ 101 s) ∧ (∀ s, s ≠ 3 → σ' 102 s = σ 102 s) ∧ (∀ i, i < c → σ' 104 i = σ 104 i) ∧ (∀ d, d ≠ 0 → d ≠ 14 → d ≠ 15 → d ≠ 16 → τ' d = τ d) ∧ (∀ k, k < 15 ∨ (18 < k ∧ k ≠ 28 ∧ k ≠ 29 ∧ k ≠ 31) → τ' 0 k = τ 0 k) ∧ ∀ i, i < 800 → τ' 14 i = τ 14 i ∧ τ' 15 i = τ 15 i
theorem VF_refl {c : Nat} {σ τ : z_M} : VF c σ τ σ τ := ⟨fun _ _ _ _ _ => rfl, fun _ _ _ _ => rfl, fun _ _ => rfl, fun _ _ => rfl, fun _ _ _ _ _ => rfl, fun _ _ => rfl, fun _ _ => ⟨rfl, rfl⟩⟩
theorem VF_trans {c c' : Nat} {σ τ σ' τ' σ'' τ'' : z_M} (hc : c ≤ c') (h : VF c σ τ σ' τ') (g : VF c' σ' τ' σ'' τ'') : VF c σ τ σ'' τ'' := by
  obtain ⟨h1, h2, h3, h4, h5, h6, h7⟩ := h
  obtain ⟨g1, g2, g3, g4, g5, g6, g7⟩ := g
  exact ⟨fun d a c e f => (g1 d a c e f).trans (h1 d a c e f), fun s a c d => (g2 s a c d).trans (h2 s a c d), fun s a => (g3 s a).trans (h3 s a), fun i a => (g4 i (by omega)).trans (h4 i a), fun d a c e f => (g5 d a c e f).trans (h5 d a c e f), fun k a => (g6 k a).trans (h6 k a), fun i a => ⟨(g7 i a).1.trans (h7 i a).1, (g7 i a).2.trans (h7 i a).2⟩⟩
theorem VF_SF {c : Nat} {σ τ σ' τ' : z_M} (h : SF c σ τ σ' τ') : VF c σ τ σ' τ' := by
  obtain ⟨h1, h2, h3, h4, h5, h6, h7⟩ := h
  exact ⟨fun d a c e _ => h1 d a c e, fun s a _ _ => h2 s a, h3, h4, fun d a c e _ => h5 d a c e, fun k a => h6 k (by omega), h7⟩
theorem VF_101 {c k : Nat} {v : Int32} {σ τ : z_M} (h : k = 4 ∨ k = 8 ∨ k = 9) : VF c σ τ (z_set σ 101 k v) τ := ⟨fun d a _ _ _ => s_ne a, fun s a e f => s_kn (by omega), fun s _ => by rw [s_ne (by omega)], fun i _ => by rw [s_ne (by omega)], fun _ _ _ _ _ => rfl, fun _ _ => rfl, fun _ _ => ⟨rfl, rfl⟩⟩
theorem VF_105 {c k : Nat} {v : Int32} {σ τ : z_M} : VF c σ τ (z_set σ 105 k v) τ := ⟨fun d _ _ _ a => s_ne a, fun s _ _ _ => by rw [s_ne (by omega)], fun s _ => by rw [s_ne (by omega)], fun i _ => by rw [s_ne (by omega)], fun _ _ _ _ _ => rfl, fun _ _ => rfl, fun _ _ => ⟨rfl, rfl⟩⟩
theorem VF_0 {c k : Nat} {v : Int32} {σ τ : z_M} (h : k = 28 ∨ k = 29 ∨ k = 31) : VF c σ τ σ (z_set τ 0 k v) := ⟨fun _ _ _ _ _ => rfl, fun _ _ _ _ => rfl, fun _ _ => rfl, fun _ _ => rfl, fun d a _ _ _ => s_ne a, fun j a => s_kn (by omega), fun i _ => by rw [s_ne (by omega), s_ne (by omega)]; exact ⟨rfl, rfl⟩⟩
theorem VF_16 {c k : Nat} {v : Int32} {σ τ : z_M} : VF c σ τ σ (z_set τ 16 k v) := ⟨fun _ _ _ _ _ => rfl, fun _ _ _ _ => rfl, fun _ _ => rfl, fun _ _ => rfl, fun d _ _ _ a => s_ne a, fun j a => by rw [s_ne (by omega)], fun i _ => by rw [s_ne (by omega), s_ne (by omega)]; exact ⟨rfl, rfl⟩⟩
theorem VF_XC {c : Nat} {σ τ σ' τ' : z_M} (h : VF c σ τ σ' τ') : XC σ σ' := ⟨fun d a => h.1 d (by omega) (by omega) (by omega) (by omega), h.2.1 5 (by omega) (by omega) (by omega), h.2.1 6 (by omega) (by omega) (by omega)⟩
theorem VF_XM {c : Nat} {σ τ σ' τ' : z_M} (h : VF c σ τ σ' τ') : XM τ τ' := by
  obtain ⟨h1, h2, h3, h4, h5, h6, h7⟩ := h
  exact ⟨fun d a _ => h5 d a (by omega) (by omega) (by omega), fun k a => h6 k (by omega), fun d a _ i _ => by rw [h5 d (by omega) (by omega) (by omega) (by omega)], h7, fun i _ => by rw [h5 17 (by omega) (by omega) (by omega) (by omega)], fun i _ => by rw [h5 18 (by omega) (by omega) (by omega) (by omega)], fun i _ => by rw [h5 19 (by omega) (by omega) (by omega) (by omega)]⟩
/-- one that waits is put behind its right side -/
def PCm (c w l o : Nat) (σ : z_M) : z_M := EC c (nI w) (if w = 14 then z_set (z_set σ 101 8 (nI l)) 101 9 (nI o) else z_set σ 101 8 (nI l))
def PMm (c w l o : Nat) (τ : z_M) : z_M := if w = 14 then z_set (EM c (nI (rop w)) 0 (z_set τ 0 31 (nI l))) 0 29 (nI o) else EM c (nI (rop w)) 0 (z_set τ 0 31 (nI l))
theorem VF_PC {c w l o : Nat} {σ τ : z_M} : VF c σ τ (PCm c w l o σ) (PMm c w l o τ) := by
  unfold PCm PMm
  by_cases q : w = 14
  · rw [if_pos q, if_pos q]
    exact VF_trans (Nat.le_refl c) (VF_101 (.inr (.inl rfl))) (VF_trans (Nat.le_refl c) (VF_101 (.inr (.inr rfl))) (VF_trans (Nat.le_refl c) (VF_0 (.inr (.inr rfl))) (VF_trans (Nat.le_refl c) (VF_SF SF_emit) (VF_0 (.inr (.inl rfl))))))
  · rw [if_neg q, if_neg q]
    exact VF_trans (Nat.le_refl c) (VF_101 (.inr (.inl rfl))) (VF_trans (Nat.le_refl c) (VF_0 (.inr (.inr rfl))) (VF_SF SF_emit))
/-- codes and what waits, behind a C -/
def SQ (f c : Nat) (W : List Nat) (σ τ : z_M) : Prop := CD c σ τ ∧ WF f c (σ 104) (true :: tr (cJ W)) ∧ Sw W σ τ ∧ Op (cO W) σ τ
theorem PC_at {c w l o : Nat} {σ : z_M} : PCm c w l o σ 102 3 = nI (c + 1) ∧ (∀ i, i < c → PCm c w l o σ 104 i = σ 104 i) ∧ PCm c w l o σ 104 c = nI w ∧ PCm c w l o σ 105 = σ 105 ∧ PCm c w l o σ 101 8 = nI l ∧ PCm c w l o σ 101 9 = (if w = 14 then nI o else σ 101 9) ∧ (∀ s, s ≠ 8 → s ≠ 9 → PCm c w l o σ 101 s = σ 101 s) ∧ ∀ d, d ≤ 100 → PCm c w l o σ d = σ d := by
  unfold PCm EC
  by_cases q : w = 14
  · rw [if_pos q, if_pos q]
    refine ⟨s_eq, fun i hi => ?_, ?_, ?_, ?_, ?_, fun s a e => ?_, fun d hd => ?_⟩
    · rw [s_ne (by omega), s_kn (by omega), s_ne (by omega), s_ne (by omega)]
    · rw [s_ne (by omega), s_eq]
    · rw [s_ne (by omega), s_ne (by omega), s_ne (by omega), s_ne (by omega)]
    · rw [s_ne (by omega), s_ne (by omega), s_kn (by omega), s_eq]
    · rw [s_ne (by omega), s_ne (by omega), s_eq]
    · rw [s_ne (by omega), s_ne (by omega), s_kn e, s_kn a]
    · rw [s_ne (by omega), s_ne (by omega), s_ne (by omega), s_ne (by omega)]
  · rw [if_neg q, if_neg q]
    refine ⟨s_eq, fun i hi => ?_, ?_, ?_, ?_, ?_, fun s a e => ?_, fun d hd => ?_⟩
    · rw [s_ne (by omega), s_kn (by omega), s_ne (by omega)]
    · rw [s_ne (by omega), s_eq]
    · rw [s_ne (by omega), s_ne (by omega), s_ne (by omega)]
    · rw [s_ne (by omega), s_ne (by omega), s_eq]
    · rw [s_ne (by omega), s_ne (by omega), s_kn (by omega)]
    · rw [s_ne (by omega), s_ne (by omega), s_kn a]
    · rw [s_ne (by omega), s_ne (by omega), s_ne (by omega)]
theorem PM_at {c w l o : Nat} {τ : z_M} : PMm c w l o τ 0 28 = nI (c + 1) ∧ (∀ i, i ≠ 800 + c → PMm c w l o τ 14 i = τ 14 i ∧ PMm c w l o τ 15 i = τ 15 i) ∧ PMm c w l o τ 14 (800 + c) = nI (rop w) ∧ PMm c w l o τ 15 (800 + c) = 0 ∧ PMm c w l o τ 16 = τ 16 ∧ PMm c w l o τ 0 31 = nI l ∧ PMm c w l o τ 0 29 = (if w = 14 then nI o else τ 0 29) ∧ (∀ s, s ≠ 28 → s ≠ 29 → s ≠ 31 → PMm c w l o τ 0 s = τ 0 s) ∧ ∀ d, d ≠ 0 → d ≠ 14 → d ≠ 15 → PMm c w l o τ d = τ d := by
  unfold PMm EM
  by_cases q : w = 14
  · rw [if_pos q, if_pos q]
    refine ⟨?_, fun i hi => ⟨?_, ?_⟩, ?_, ?_, ?_, ?_, s_eq, fun s a e g => ?_, fun d a e g => ?_⟩
    · rw [s_kn (by omega), s_eq]
    · rw [s_ne (by omega), s_ne (by omega), s_ne (by omega), s_kn hi, s_ne (by omega)]
    · rw [s_ne (by omega), s_ne (by omega), s_kn hi, s_ne (by omega), s_ne (by omega)]
    · rw [s_ne (by omega), s_ne (by omega), s_ne (by omega), s_eq]
    · rw [s_ne (by omega), s_ne (by omega), s_eq]
    · rw [s_ne (by omega), s_ne (by omega), s_ne (by omega), s_ne (by omega), s_ne (by omega)]
    · rw [s_kn (by omega), s_kn (by omega), s_ne (by omega), s_ne (by omega), s_eq]
    · rw [s_kn e, s_kn a, s_ne (by omega), s_ne (by omega), s_kn g]
    · rw [s_ne a, s_ne a, s_ne g, s_ne e, s_ne a]
  · rw [if_neg q, if_neg q]
    refine ⟨s_eq, fun i hi => ⟨?_, ?_⟩, ?_, ?_, ?_, ?_, ?_, fun s a e g => ?_, fun d a e g => ?_⟩
    · rw [s_ne (by omega), s_ne (by omega), s_kn hi, s_ne (by omega)]
    · rw [s_ne (by omega), s_kn hi, s_ne (by omega), s_ne (by omega)]
    · rw [s_ne (by omega), s_ne (by omega), s_eq]
    · rw [s_ne (by omega), s_eq]
    · rw [s_ne (by omega), s_ne (by omega), s_ne (by omega), s_ne (by omega)]
    · rw [s_kn (by omega), s_ne (by omega), s_ne (by omega), s_eq]
    · rw [s_kn (by omega), s_ne (by omega), s_ne (by omega), s_kn (by omega)]
    · rw [s_kn a, s_ne (by omega), s_ne (by omega), s_kn g]
    · rw [s_ne a, s_ne g, s_ne e, s_ne a]
theorem pop_rel {w : Nat} (hw : w = 12 ∨ w = 13 ∨ w = 14) : C_rel (nI w) (nI (rop w)) 0 := by
  rcases hw with rfl | rfl | rfl
  · exact .inr (.inr (.inr (.inr (.inr (.inr (.inr (.inr (.inr (.inr (.inr ⟨rfl, rfl⟩))))))))))
  · exact .inr (.inr (.inr (.inr (.inr (.inr (.inr (.inr (.inr (.inr (.inl ⟨rfl, rfl⟩))))))))))
  · exact .inr (.inr (.inr (.inr (.inr (.inr (.inr (.inr (.inr (.inl ⟨rfl, rfl⟩)))))))))
theorem pop_dep {w : Nat} {W : List Nat} (hw : w = 12 ∨ w = 13 ∨ w = 14) : C_dep (nI w) (true :: tr (cJ (w :: W))) = some (true :: tr (cJ W)) := by
  rcases hw with rfl | rfl | rfl
  · rw [show cJ (12 :: W) = cJ W + 1 from by show 1 + cJ W = _; omega, tr_s]; exact dep_12
  · rw [show cJ (13 :: W) = cJ W + 1 from by show 1 + cJ W = _; omega, tr_s]; exact dep_13
  · rw [show cJ (14 :: W) = cJ W from by show 0 + cJ W = _; omega]; exact dep_14
theorem SQ_pop {f c w : Nat} {W : List Nat} {σ τ : z_M} (h : SQ f c (w :: W) σ τ) (hw : w = 12 ∨ w = 13 ∨ w = 14) : SQ f (c + 1) W (PCm c w W.length (cO W) σ) (PMm c w W.length (cO W) τ) := by
  obtain ⟨h1, h2, ⟨w1, w2, w3, w4⟩, o1, o2, o3⟩ := h
  obtain ⟨a1, a2, a3, a4, a5, a6, a7, a8⟩ := PC_at (c := c) (w := w) (l := W.length) (o := cO W) (σ := σ)
  obtain ⟨b1, b2, b3, b4, b5, b6, b7, b8, b9⟩ := PM_at (c := c) (w := w) (l := W.length) (o := cO W) (τ := τ)
  have eO : cO (w :: W) = (if w = 14 ∨ w = 37 then 1 else 0) + cO W := rfl
  refine ⟨⟨a1, b1, fun i hi => ?_⟩, WF_push h2 (pop_dep hw) (fun z => ?_) a2 a3, ⟨w1.2, by rw [a4, b5]; exact w2.2.2, a5, b6⟩, by omega, ?_, ?_⟩
  · by_cases q : i = c
    · rw [q, a3, b3, b4]; exact pop_rel hw
    · rw [a2 i (by omega), (b2 (800 + i) (by omega)).1, (b2 (800 + i) (by omega)).2]; exact h1.2.2 i (by omega)
  · have z : nI w = nI 36 := z
    rw [nI_eq (by omega) (by omega)] at z; omega
  · rw [a6]
    by_cases q : w = 14
    · rw [if_pos q]
    · rw [if_neg q, o2, eO, if_neg (by omega), Nat.zero_add]
  · rw [b7]
    by_cases q : w = 14
    · rw [if_pos q]
    · rw [if_neg q, o3, eO, if_neg (by omega), Nat.zero_add]
/-- the class settles one -/
theorem e3_pop {f c w m : Nat} {v : Int32} {W : List Nat} {σ τ : z_M} (h : SQ f c (w :: W) σ τ) (hw : w = 12 ∨ w = 13 ∨ w = 14) (hc : c < 400) (hv : ¬ nI w < v) : f3_settle_L0 (m + 1) v σ = f3_settle_L0 m v (PCm c w W.length (cO W) σ) := by
  obtain ⟨h1, h2, ⟨w1, w2, w3, w4⟩, o1, o2, o3⟩ := h
  have hl := Sw_len ⟨w1, w2, w3, w4⟩ o1
  have el : (w :: W).length = W.length + 1 := rfl
  rw [el] at hl w3 w4
  have eO : cO (w :: W) = (if w = 14 ∨ w = 37 then 1 else 0) + cO W := rfl
  have e1 : nI (W.length + 1) - 1 = nI W.length := by rw [l_1, pk_sub (by omega), Nat.add_sub_cancel]
  conv => lhs; unfold f3_settle_L0
  unfold f3_settle_J72 PCm
  rw [w3, if_pos (show 0 < nI (W.length + 1) from nI_lt (a := 0) (b := W.length + 1) (by omega) (by omega)), e1, k_cin _ (by omega) (by omega), q_ix (by omega), w2.1, if_neg (show ¬ nI w = 37 from fun z => by (have z : nI w = nI 37 := z; rw [nI_eq (by omega) (by omega)] at z; omega)), k_cin _ (by omega) (by omega), if_neg hv, q_let, s_eq, k_cin _ (by omega) (by omega), q_ix (by omega), s_ne (by omega), w2.1]
  by_cases q : w = 14
  · rw [if_pos (show nI w = 14 by rw [q]; rfl), s_kn (by omega), o2, eO, if_pos (.inl q), show nI (1 + cO W) - 1 = nI (cO W) from by rw [l_1, pk_sub (by omega), Nat.add_sub_cancel_left], q_let, if_pos q, s_kn (by omega), s_eq, k_cin _ (by omega) (by omega), q_ix (by omega), s_ne (by omega), s_ne (by omega), w2.1, e9_emit hc (by rw [s_ne (by omega), s_ne (by omega)]; exact h1.1), q_bnd]
  · rw [if_neg (show ¬ nI w = 14 from fun z => by (have z : nI w = nI 14 := z; rw [nI_eq (by omega) (by omega)] at z; omega)), if_neg q, k_cin _ (by omega) (by omega), e9_emit hc (by rw [s_ne (by omega)]; exact h1.1), q_bnd]
/-- the class settles no more -/
theorem e3_stop {m : Nat} {v : Int32} {W : List Nat} {σ τ : z_M} (h : Sw W σ τ) (ho : cO W ≤ 8) (hs : W = [] ∨ hd W = 37 ∨ nI (hd W) < v) : f3_settle_L0 (m + 1) v σ = some ((), σ) := by
  have hl := Sw_len h ho
  obtain ⟨w1, w2, w3, w4⟩ := h
  rcases W with _ | ⟨w, W⟩
  · unfold f3_settle_L0
    rw [w3, if_neg (by decide)]
  · have el : (w :: W).length = W.length + 1 := rfl
    rw [el] at hl w3 w4
    have e1 : nI (W.length + 1) - 1 = nI W.length := by rw [l_1, pk_sub (by omega), Nat.add_sub_cancel]
    unfold f3_settle_L0
    rw [w3, if_pos (show 0 < nI (W.length + 1) from nI_lt (a := 0) (b := W.length + 1) (by omega) (by omega)), e1, k_cin _ (by omega) (by omega), q_ix (by omega), w2.1, k_cin _ (by omega) (by omega)]
    rcases hs with z | z | z
    · exact absurd z (by simp)
    · have z : w = 37 := z
      rw [if_pos (show nI w = 37 by rw [z]; rfl)]
    · have z : nI w < v := z
      rw [if_pos z, ite_self]
/-- the reference settles one -/
theorem e12_pop {f c w m : Nat} {W : List Nat} {σ τ : z_M} (h : SQ f c (w :: W) σ τ) (hw : w = 12 ∨ w = 13 ∨ w = 14) (hc : c < 400) : f12_settles_L0 (m + 1) (nI (rop w)) τ = f12_settles_L0 m (nI (rop w)) (PMm c w W.length (cO W) τ) := by
  obtain ⟨h1, h2, ⟨w1, w2, w3, w4⟩, o1, o2, o3⟩ := h
  have hl := Sw_len ⟨w1, w2, w3, w4⟩ o1
  have el : (w :: W).length = W.length + 1 := rfl
  rw [el] at hl w3 w4
  have eO : cO (w :: W) = (if w = 14 ∨ w = 37 then 1 else 0) + cO W := rfl
  have e1 : nI (W.length + 1) - 1 = nI W.length := by rw [l_1, pk_sub (by omega), Nat.add_sub_cancel]
  conv => lhs; unfold f12_settles_L0
  unfold PMm
  rw [w4, if_pos (show 0 < nI (W.length + 1) from nI_lt (a := 0) (b := W.length + 1) (by omega) (by omega)), e1, k_cin _ (by omega) (by omega), q_ix (by omega), w2.2.1, if_pos rfl, q_let, e12_emits hc (by rw [s_kn (by omega)]; exact h1.2.1), q_bnd]
  by_cases q : w = 14
  · rw [if_pos (show nI (rop w) = 9 by rw [q]; rfl), if_pos q]
    have e29 : EM c (nI (rop w)) 0 (z_set τ 0 31 (nI W.length)) 0 29 = nI (1 + cO W) := by
      unfold EM
      rw [s_kn (by omega), s_ne (by omega), s_ne (by omega), s_kn (by omega), o3, eO, if_pos (.inl q)]
    rw [e29, show nI (1 + cO W) - 1 = nI (cO W) from by rw [l_1, pk_sub (by omega), Nat.add_sub_cancel_left], q_let]
  · have n9 : ¬ nI (rop w) = 9 := by rcases hw with rfl | rfl | rfl <;> first | decide | exact absurd rfl q
    rw [if_neg n9, if_neg q]
/-- the reference settles no more -/
theorem e12_stop {m w0 : Nat} {W : List Nat} {σ τ : z_M} (h : Sw W σ τ) (ho : cO W ≤ 8) (hw0 : w0 = 12 ∨ w0 = 13 ∨ w0 = 14) (hs : ¬ hd W = w0) : f12_settles_L0 (m + 1) (nI (rop w0)) τ = some ((), τ) := by
  have hl := Sw_len h ho
  obtain ⟨w1, w2, w3, w4⟩ := h
  rcases W with _ | ⟨w, W⟩
  · unfold f12_settles_L0
    rw [w4, if_neg (by decide)]
  · have el : (w :: W).length = W.length + 1 := rfl
    rw [el] at hl w3 w4
    have hs : ¬ w = w0 := hs
    have e1 : nI (W.length + 1) - 1 = nI W.length := by rw [l_1, pk_sub (by omega), Nat.add_sub_cancel]
    have ne : ¬ nI (rop w) = nI (rop w0) := by
      rcases w1.1 with rfl | rfl | ⟨rfl, -⟩ | ⟨rfl, -⟩ <;> rcases hw0 with rfl | rfl | rfl <;> first | decide | exact absurd rfl hs
    unfold f12_settles_L0
    rw [w4, if_pos (show 0 < nI (W.length + 1) from nI_lt (a := 0) (b := W.length + 1) (by omega) (by omega)), e1, k_cin _ (by omega) (by omega), q_ix (by omega), w2.2.1, if_neg ne]
section
variable {n N : Nat} {b P : Nat → Nat} {K V L : Nat → Int32}
theorem AC_PC {x c w l o : Nat} {σ : z_M} (h : AC N K V L x σ) : AC N K V L x (PCm c w l o σ) := by
  obtain ⟨a1, a2, a3, a4, a5, a6, a7, a8⟩ := PC_at (c := c) (w := w) (l := l) (o := o) (σ := σ)
  exact ⟨h.1, by rw [a7 4 (by omega) (by omega)]; exact h.2.1, by rw [a8 98 (by omega)]; exact h.2.2.1, by rw [a8 99 (by omega)]; exact h.2.2.2.1, by rw [a8 100 (by omega)]; exact h.2.2.2.2⟩
theorem AM_PM {x c w l o : Nat} {τ : z_M} (h : AM n b P K V L x τ) : AM n b P K V L x (PMm c w l o τ) := by
  obtain ⟨b1, b2, b3, b4, b5, b6, b7, b8, b9⟩ := PM_at (c := c) (w := w) (l := l) (o := o) (τ := τ)
  exact AM_cong h (b9 7 (by omega) (by omega) (by omega)) (b9 8 (by omega) (by omega) (by omega)) (fun k _ _ => b8 k (by omega) (by omega) (by omega))
/-- all of one kind that wait on top are settled, on both sides -/
theorem r_drop {f w0 : Nat} (hw0 : w0 = 12 ∨ w0 = 13 ∨ w0 = 14) : ∀ (W : List Nat) (c : Nat) (σ τ : z_M), SQ f c W σ τ → c + W.length ≤ 400 → ∃ k W' σ1 τ1, k + W'.length = W.length ∧ ¬ hd W' = w0 ∧ (W' = W ∨ wR (w0 :: W')) ∧ cP W' = cP W ∧ (∀ v m, ¬ nI w0 < v → f3_settle_L0 (m + k) v σ = f3_settle_L0 m v σ1) ∧ (∀ m, f12_settles_L0 (m + k + 1) (nI (rop w0)) τ = some ((), τ1)) ∧ SQ f (c + k) W' σ1 τ1 ∧ VF c σ τ σ1 τ1 ∧ (∀ x, AC N K V L x σ → AC N K V L x σ1) ∧ ∀ x, AM n b P K V L x τ → AM n b P K V L x τ1
  | [], c, σ, τ, h, hc => ⟨0, [], σ, τ, rfl, by show ¬ 0 = w0; omega, .inl rfl, rfl, fun _ _ _ => rfl, fun m => e12_stop h.2.2.1 h.2.2.2.1 hw0 (by show ¬ 0 = w0; omega), h, VF_refl, fun _ a => a, fun _ a => a⟩
  | w :: W, c, σ, τ, h, hc => by
    by_cases q : w = w0
    · subst q
      have el : (w :: W).length = W.length + 1 := rfl
      rw [el] at hc
      obtain ⟨k, W', σ1, τ1, a1, a2, a3, a4, a5, a6, a7, a8, a9, a10⟩ := r_drop hw0 W (c + 1) _ _ (SQ_pop h hw0) (by omega)
      refine ⟨k + 1, W', σ1, τ1, by rw [el]; omega, a2, ?_, ?_, fun v m hv => ?_, fun m => ?_, ?_, VF_trans (by omega) VF_PC a8, fun x hx => a9 x (AC_PC hx), fun x hx => a10 x (AM_PM hx)⟩
      · rcases a3 with z | z
        · right
          rw [z]; exact h.2.2.1.1
        · exact .inr z
      · rw [a4]
        show cP W = (if w = 37 then 1 else 0) + cP W
        rw [if_neg (by omega), Nat.zero_add]
      · rw [show m + (k + 1) = m + k + 1 by omega, e3_pop h hw0 (by omega) hv, a5 v m hv]
      · rw [show m + (k + 1) + 1 = m + k + 1 + 1 by omega, e12_pop h hw0 (by omega), a6 m]
      · rw [show c + (k + 1) = c + 1 + k by omega]; exact a7
    · exact ⟨0, w :: W, σ, τ, by omega, q, .inl rfl, rfl, fun _ _ _ => rfl, fun m => e12_stop h.2.2.1 h.2.2.2.1 hw0 q, h, VF_refl, fun _ a => a, fun _ a => a⟩
end
