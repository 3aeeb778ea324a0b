/-! pure facts: memory, numbers -/
theorem q_lit (n : Nat) : (OfNat.ofNat n : Int32) = nI n := rfl
theorem q_set (σ : z_M) (c k : Nat) (v : Int32) (c' : Nat) : z_set σ c k v c' = if c' = c then upd (σ c) k v else σ c' := rfl
theorem q_upd (f : Nat → Int32) (k : Nat) (v : Int32) (j : Nat) : upd f k v j = if j = k then v else f j := rfl
theorem q_let {α β : Type} (x : α) (f : α → Option β) : z_let x f = f x := rfl
theorem q_chk {β : Type} {b : Bool} (k : Option β) (h : b = true) : z_chk b k = k := by unfold z_chk; rw [if_pos h]
theorem q_bnd {α β : Type} (r : α) (σ : z_M) (f : α → z_M → Option β) : z_bnd (some (r, σ)) f = f r σ := rfl
theorem q_bnde {α β : Type} {m : Option (α × z_M)} {r : α} {σ : z_M} (f : α → z_M → Option β) (h : m = some (r, σ)) : z_bnd m f = f r σ := by rw [h]; rfl
theorem q_ix {n : Nat} (h : n < 2 ^ 31) : z_ix (nI n) = n := nI_clamp h
theorem q_in {n N : Nat} (h : n < N) (hN : N < 2 ^ 31) : z_in (nI n) N = true := by
  unfold z_in
  rw [nI_clamp (by omega)]
  simp [nI_pos (show n < 2 ^ 31 by omega), h]
theorem q_nat {p : Int32} {n : Nat} (hn : n < 2 ^ 31) (h0 : ¬ p < 0) (h1 : p < nI n) : ∃ j, j < n ∧ p = nI j := by
  obtain ⟨j, hj, rfl⟩ := nI_of h0
  exact ⟨j, (nI_ltI hj hn).mp h1, rfl⟩
theorem q_natle {p : Int32} {n : Nat} (h0 : ¬ p < 0) (h1 : ¬ nI n < p) : ∃ j, j ≤ n ∧ p = nI j := by
  obtain ⟨j, hj, rfl⟩ := nI_of h0
  refine ⟨j, ?_, rfl⟩
  rcases Nat.lt_or_ge n j with q | q
  · exact absurd (nI_lt q hj) h1
  · exact q
theorem q_neg {n : Nat} (h : n < 2 ^ 31) : ¬ nI n = -1 := by
  intro q
  have := nI_toInt h
  rw [q] at this
  have h2 : (-1 : Int32).toInt = -1 := by decide
  omega
theorem q_sub_add (x y : Int32) : x - y + y = x := by
  apply Int32.toBitVec_inj.mp
  simp
theorem q_add_sub (x y : Int32) : x + y - y = x := by
  apply Int32.toBitVec_inj.mp
  simp
/-! the relation of the class's garden (rows of its cells) and the reference's (rows of its arrays), group by group; H: how many houses -/
def G_sc (H : Nat) (ho mo fr be mh mm mf mb : Int32) : Prop := H ≤ 8 ∧ ho = nI H ∧ mh = nI H ∧ (∃ n, n ≤ 8 ∧ mo = nI n) ∧ mm = mo - 3 ∧ (∃ n, n ≤ 1000 ∧ fr = nI n) ∧ mf = fr ∧ (∃ n, n ≤ 1000 ∧ be = nI n) ∧ mb = be
def G_st (s m : Nat → Int32) : Prop := ∀ i, i < 8 → m i = s i ∧ ∃ n, n ≤ 5 ∧ s i = nI n
def G_li (H : Nat) (s m : Nat → Int32) : Prop := ∀ i, i < 8 → m i = s i ∧ ∃ n, n < 2 ^ H ∧ s i = nI n ∧ (H ≤ i → n = 0)
/-- the beds: ob the object's row (5 draws, 6 week, 7 breaches, 8 leaves), m the reference's row of a hundred; the week is W at most -/
def G_be (H W : Nat) (ob d th he te wa m : Nat → Int32) : Prop :=
  (m 0 = ob 6 ∧ m 1 = ob 5 ∧ m 2 = ob 8 ∧ m 3 = ob 7) ∧ (∃ n, n ≤ W ∧ ob 6 = nI n) ∧ (∃ n, n ≤ 150 ∧ ob 8 = nI n) ∧
  (∀ i, i < 64 → m (4 + i) = d i - 50 ∧ ∃ n, n ≤ 100 ∧ d i = nI n) ∧
  (∀ h, h < 8 → m (68 + h) = th h + 1 ∧ ((th h = -1 ∧ he h = 0 ∧ te h = -1 ∧ wa h = 0) ∨ (h < H ∧ (∃ t, t < 8 ∧ th h = nI t) ∧ (∃ n, 1 ≤ n ∧ n ≤ 99 ∧ he h = nI n) ∧ (∃ n, n ≤ 9 ∧ te h = nI n) ∧ (∃ n, n ≤ 99 ∧ wa h = nI n) ∧ m (76 + h) = he h ∧ m (84 + h) = te h ∧ m (92 + h) = wa h))) ∧
  (∀ h t, H ≤ h → h < 8 → t < 8 → d (8 * h + t) = 50)
def G_re (ln mn : Int32) (ce mr : Nat → Int32) : Prop := ∃ n, n ≤ 16 ∧ ln = nI n ∧ mn = nI n ∧ ∀ i, i < n → (mr (3 * i) = ce (5 * i) ∧ mr (3 * i + 1) = ce (5 * i + 1) ∧ mr (3 * i + 2) = ce (5 * i + 2)) ∧ (∃ t, t < 8 ∧ ce (5 * i) = nI t) ∧ (∃ s, 0 < s ∧ s < 256 ∧ ce (5 * i + 1) = nI s) ∧ ∃ g, g ≤ 100 ∧ ce (5 * i + 2) = nI g
def G_wo (H : Nat) (ln mn : Int32) (ce mr : Nat → Int32) : Prop := ∃ n, n ≤ 12 ∧ ln = nI n ∧ mn = nI n ∧ ∀ i, i < n → (mr (3 * i) = ce (5 * i) ∧ mr (3 * i + 1) = ce (5 * i + 1) ∧ mr (3 * i + 2) = ce (5 * i + 2)) ∧ (∃ h, h < H ∧ ce (5 * i) = nI h) ∧ (ce (5 * i + 1) = 0 ∨ ce (5 * i + 1) = 1) ∧ ∃ t, t < 8 ∧ ce (5 * i + 2) = nI t
/-- A PLAN: week, deed, house, a, b; the deeds' numbers: pot 22 and 0, weed 25 and 1, water 2 and 2, tell 26 and 3 -/
def G_pl (H : Nat) (ln mn : Int32) (ce mr : Nat → Int32) : Prop := ∃ n, n ≤ 16 ∧ ln = nI n ∧ mn = nI n ∧ ∀ i, i < n → (mr (5 * i) = ce (5 * i) ∧ mr (5 * i + 2) = ce (5 * i + 2) ∧ mr (5 * i + 3) = ce (5 * i + 3) ∧ mr (5 * i + 4) = ce (5 * i + 4)) ∧ (∃ w, w ≤ 999 ∧ ce (5 * i) = nI w) ∧ (∃ h, h < H ∧ ce (5 * i + 2) = nI h) ∧
  ((ce (5 * i + 1) = 22 ∧ mr (5 * i + 1) = 0 ∧ (∃ t, t < 8 ∧ ce (5 * i + 3) = nI t) ∧ ∃ t, t ≤ 9 ∧ ce (5 * i + 4) = nI t) ∨ (ce (5 * i + 1) = 25 ∧ mr (5 * i + 1) = 1) ∨ (ce (5 * i + 1) = 2 ∧ mr (5 * i + 1) = 2 ∧ ∃ t, 1 ≤ t ∧ t ≤ 99 ∧ ce (5 * i + 3) = nI t) ∨ (ce (5 * i + 1) = 26 ∧ mr (5 * i + 1) = 3 ∧ (∃ t, t < 8 ∧ ce (5 * i + 3) = nI t) ∧ ∃ t, t ≤ 100 ∧ ce (5 * i + 4) = nI t))
def G_ta (ln mn : Int32) (ta h t w : Nat → Int32) : Prop := ∃ n, n ≤ 12 ∧ ln = nI n ∧ mn = nI n ∧ ∀ i, i < n → (h i = ta (3 * i) ∧ t i = ta (3 * i + 1) ∧ w i = ta (3 * i + 2)) ∧ (∃ k, k < 8 ∧ ta (3 * i + 1) = nI k) ∧ (ta (3 * i + 2) = 0 ∨ ta (3 * i + 2) = 1)
def G_bo (b m : Nat → Int32) : Prop := ∀ k, k < 600 → m k = b k
