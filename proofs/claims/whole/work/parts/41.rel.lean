/-- a code of THE LAW in the class and in the reference -/
def C_rel (c o a : Int32) : Prop := (∃ v, v ≤ 9999 ∧ c = nI (64 + v) ∧ o = 0 ∧ a = nI v) ∨ (∃ k, k < 8 ∧ c = nI k ∧ o = 1 ∧ a = nI k) ∨ (c = 33 ∧ o = 2) ∨ (c = 34 ∧ o = 3) ∨ (c = 35 ∧ o = 4) ∨ (c = 36 ∧ o = 5) ∨ (c = 39 ∧ o = 6) ∨ (c = 40 ∧ o = 7) ∨ (c = 41 ∧ o = 8) ∨ (c = 14 ∧ o = 9) ∨ (c = 13 ∧ o = 10) ∨ (c = 12 ∧ o = 11)
/-- what lies on the stack behind a code, true where it is 0 or 1 for sure; none where it can't be done -/
def C_dep (c : Int32) (s : List Bool) : Option (List Bool) := if 64 ≤ c ∨ c ≤ 7 then (if s.length < 30 then some (false :: s) else none) else match s with
  | [] => none
  | x :: s' => if c = 14 then (if x = true then some (true :: s') else none) else match s' with
    | [] => none
    | y :: s'' => if c = 12 ∨ c = 13 then (if x = true ∧ y = true then some (true :: s'') else none) else if 39 ≤ c then some (true :: s'') else some (false :: s'')
def C_run (cd : Nat → Int32) : Nat → Nat → List Bool → Option (List Bool)
  | 0, _, s => some s
  | n + 1, i, s => (C_dep (cd i) s).bind (C_run cd n (i + 1))
/-- the codes from f to t are one value, with no part by 0 -/
def C_ok (cd : Nat → Int32) (f t : Nat) : Prop := f ≤ t ∧ (∃ b, C_run cd (t - f) f [] = some [b]) ∧ ∀ i, f ≤ i → i < t → cd i = 36 → f < i ∧ ∃ v, 1 ≤ v ∧ v ≤ 9999 ∧ cd (i - 1) = nI (64 + v)
def G_la (ln co mn : Int32) (ce cd mW mF mN mT op ar : Nat → Int32) : Prop := ∃ n k, n ≤ 16 ∧ k ≤ 400 ∧ ln = nI n ∧ mn = nI n ∧ co = nI k ∧ (∀ i, i < k → C_rel (cd i) (op i) (ar i)) ∧
  ∀ i, i < n → (∃ f t e, ce (5 * i + 1) = nI f ∧ ce (5 * i + 2) = nI t ∧ ce (5 * i + 3) = nI e ∧ mF i = nI f ∧ mN i = nI t ∧ mT i = nI e ∧ e ≤ k ∧ C_ok cd f t ∧ (t = e ∨ C_ok cd t e)) ∧ ((ce (5 * i) = 8 ∧ mW i = 0) ∨ (ce (5 * i) = 9 ∧ mW i = 1) ∨ (ce (5 * i) = 10 ∧ mW i = 2))
/-- a garden of the class (its first cell g) and the reference's arrays -/
def G_all (H : Nat) (σ : z_M) (g : Nat) (row : Nat → Int32) (sc : Nat → Int32) (sto lin tH tT tW rea wor pla boo : Nat → Int32) (lm : Int32) (lW lF lN lT op ar : Nat → Int32) : Prop :=
  G_sc H (σ g 0) (σ g 1) (σ g 2) (σ g 3) (sc 0) (sc 1) (sc 2) (sc 3) ∧ G_st (σ (g + 1)) sto ∧ G_li H (σ (g + 2)) lin ∧ G_re (σ (g + 3) 2) (sc 4) (σ (g + 4)) rea ∧ G_la (σ (g + 6) 2) (σ (g + 6) 3) lm (σ (g + 7)) (σ (g + 8)) lW lF lN lT op ar ∧ G_wo H (σ (g + 9) 2) (sc 5) (σ (g + 10)) wor ∧ G_pl H (σ (g + 12) 2) (sc 6) (σ (g + 13)) pla ∧ G_ta (σ g 11) (sc 7) (σ (g + 15)) tH tT tW ∧ G_bo (σ (g + 16)) boo ∧ G_be H 999 (σ (g + 17)) (σ (g + 18)) (σ (g + 19)) (σ (g + 20)) (σ (g + 21)) (σ (g + 22)) row
/-- the reference's eight numbers, as THE IMAGE has them -/
def m_sc (τ : z_M) : Nat → Int32 := fun k => [τ 0 6, τ 0 7, τ 0 8, τ 0 9, τ 0 36, τ 0 38, τ 0 40, τ 0 52].getD k 0
def R_now (H : Nat) (σ τ : z_M) : Prop := G_all H σ 1 (τ 1) (m_sc τ) (τ 4) (τ 5) (τ 29) (τ 30) (τ 31) (τ 17) (τ 18) (τ 19) (τ 6) (τ 9 1) (fun l => τ 10 (16 + l)) (fun l => τ 11 (16 + l)) (fun l => τ 12 (16 + l)) (fun l => τ 13 (16 + l)) (fun i => τ 14 (400 + i)) (fun i => τ 15 (400 + i))
def R_img (σ τ : z_M) : Prop := σ 0 2 = τ 0 58 ∧ (σ 0 2 = 0 ∨ (σ 0 2 = 1 ∧ ∃ H, G_all H σ 24 (τ 33) (fun k => τ 33 (100 + k)) (fun i => τ 33 (108 + 2 * i)) (fun i => τ 33 (109 + 2 * i)) (fun i => τ 33 (124 + 3 * i)) (fun i => τ 33 (125 + 3 * i)) (fun i => τ 33 (126 + 3 * i)) (fun i => τ 33 (160 + i)) (fun i => τ 33 (208 + i)) (fun i => τ 33 (244 + i)) (fun i => τ 33 (324 + i)) (τ 33 924) (fun l => τ 33 (925 + 4 * l)) (fun l => τ 33 (926 + 4 * l)) (fun l => τ 33 (927 + 4 * l)) (fun l => τ 33 (928 + 4 * l)) (fun i => τ 33 (989 + 2 * i)) (fun i => τ 33 (990 + 2 * i))))
/-- what can be undone: the class's ring, the reference's rows, the oldest first -/
def R_und (H : Nat) (σ τ : z_M) : Prop := ∃ nx uc, nx < 6 ∧ uc ≤ 6 ∧ σ 58 1 = nI nx ∧ σ 58 2 = nI uc ∧ τ 0 3 = nI uc ∧ ∀ j, j < uc → ∀ b, b = 60 + 6 * ((nx + 6 - uc + j) % 6) → G_be H 999 (σ b) (σ (b + 1)) (σ (b + 2)) (σ (b + 3)) (σ (b + 4)) (σ (b + 5)) (fun k => τ 2 (100 * j + k))
def R_tap (σ τ : z_M) : Prop := ∃ n, n ≤ 400 ∧ σ 96 1 = nI n ∧ τ 0 14 = nI n ∧ ∀ k, k < n → ∃ b, b < 256 ∧ τ 7 k = nI b ∧ σ 97 k = (nI b).toInt8.toInt32
/-- THE RELATION -/
def Rel0 (σ τ : z_M) : Prop := (∃ H, R_now H σ τ ∧ R_und H σ τ) ∧ R_img σ τ ∧ R_tap σ τ ∧ (σ 101 2 = τ 0 34 ∧ σ 101 3 = τ 0 35) ∧ (σ 50 3 = 1 ∧ σ 51 3 = 0 ∧ τ 0 5 = 0 ∧ (∀ k, k < 145 → τ 8 k = m_words k) ∧ σ 4 3 = 0 ∧ σ 10 3 = 0 ∧ σ 13 3 = 0 ∧ σ 27 3 = 0 ∧ σ 33 3 = 0 ∧ σ 36 3 = 0)
/-- the houses, asked for -/
theorem e11_isHouse (p : Int32) (σ : z_M) : f11_isHouse p σ = some (if p < 0 then 0 else if p < σ 1 0 then 1 else 0, σ) := by
  unfold f11_isHouse f11_isHouse_J19
  split
  · rfl
  · split <;> rfl
theorem e12_isHouse (p : Int32) (τ : z_M) : f12_isHouse p τ = some (if p < 0 then 0 else if p < τ 0 6 then 1 else 0, τ) := by
  unfold f12_isHouse f12_isHouse_J16
  split
  · rfl
  · split <;> rfl
theorem e11_isThing (p : Int32) (σ : z_M) : f11_isThing p σ = some (if p < 0 then 0 else if p < 8 then 1 else 0, σ) := by
  unfold f11_isThing f11_isThing_J14
  split
  · rfl
  · split <;> rfl
theorem e12_isThing (p : Int32) (τ : z_M) : f12_isThing p τ = some (if p < 0 then 0 else if p < 8 then 1 else 0, τ) := by
  unfold f12_isThing f12_isThing_J14
  split
  · rfl
  · split <;> rfl
theorem e12_isIn (p a b : Int32) (τ : z_M) : f12_isIn p a b τ = some (if p < a then 0 else if b < p then 0 else 1, τ) := by
  unfold f12_isIn f12_isIn_J14
  split
  · rfl
  · split <;> rfl
/-- fault -/
theorem p_fault0 : p_fault Rel0 := by
  intro p1 σ τ hR
  have hf := hR.2.2.2.1
  refine ⟨if p1 = 0 then σ 101 2 else if p1 = 1 then σ 101 3 else -1, σ, z_set τ 0 0 0, ?_, ?_, ?_⟩
  · unfold f11_fault
    split
    · rfl
    · split <;> rfl
  · unfold f12_fault
    simp only [q_let, q_set, q_upd, hf.1, hf.2]
    split
    · rfl
    · split <;> rfl
  · exact hR
