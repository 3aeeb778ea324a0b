/-! the plan: what the class does after a fault; the deeds' numbers -/
theorem e3_p180F {a b c d e : Int32} {σ : z_M} (h2 : ¬ σ 101 2 = 0) : f3_readPlan_J180 a b c d e σ = some ((), σ) := by
  unfold f3_readPlan_J180
  rw [e3_finishF h2, q_bnd]
theorem e3_p152F {a b c d s1 s2 : Int32} {σ : z_M} (h2 : ¬ σ 101 2 = 0) : f3_readPlan_J152 a b c d s1 s2 σ = some ((), σ) := by
  unfold f3_readPlan_J152
  rw [e3_numberF h2, q_bnd, e3_p180F h2]
theorem e3_p134F {a b c d s1 : Int32} {σ : z_M} (h2 : ¬ σ 101 2 = 0) : f3_readPlan_J134 a b c d s1 σ = some ((), σ) := by
  unfold f3_readPlan_J134
  rw [e3_takesF h2, q_bnd, e3_p152F h2, e3_p152F h2, ite_self]
theorem e3_p106F {a b c : Int32} {σ : z_M} (h2 : ¬ σ 101 2 = 0) : f3_readPlan_J106 a b c σ = some ((), σ) := by
  unfold f3_readPlan_J106
  rw [e3_takesF h2, q_bnd, e3_numberF h2, q_bnd, e3_p134F h2, e3_p134F h2, ite_self]
theorem e3_p72F {a b s : Int32} {σ : z_M} (h2 : ¬ σ 101 2 = 0) : f3_readPlan_J72 a b s σ = some ((), σ) := by
  unfold f3_readPlan_J72
  rw [e3_takesF h2, q_bnd, e3_numberF h2, q_bnd, e3_p106F h2, e3_takesF h2, q_bnd, e3_numberF h2, q_bnd, e3_p180F h2, e3_p180F h2, ite_self, ite_self, ite_self]
theorem e3_p60F {a b s : Int32} {σ : z_M} (h2 : ¬ σ 101 2 = 0) : f3_readPlan_J60 a b s σ = some ((), σ) := by
  unfold f3_readPlan_J60
  rw [e3_p72F h2, e3_p72F h2, ite_self]
/-- the deeds' words: the class's kind, the reference's number of the deed -/
def dk (d : Nat) : Nat := ([22, 25, 2, 26] : List Nat).getD d 0
theorem v_dk : ∀ j, j < 28 → ∀ d, d < 4 → (j = dk d → (if nI (wp j) = 22 then (0 : Int32) else if nI (wp j) = 9 then 2 else if nI (wp j) = 25 then 1 else if nI (wp j) = 26 then 3 else -1) = nI d) := by decide +kernel
theorem v_dn : ∀ j, j < 28 → (j ≠ 22 ∧ j ≠ 25 ∧ j ≠ 2 ∧ j ≠ 26) → (if nI (wp j) = 22 then (0 : Int32) else if nI (wp j) = 9 then 2 else if nI (wp j) = 25 then 1 else if nI (wp j) = 26 then 3 else -1) = -1 := by decide +kernel
theorem e12_kindOf (p : Int32) (τ : z_M) : f12_kindOf p τ = some (if p = 22 then (0 : Int32) else if p = 9 then 2 else if p = 25 then 1 else if p = 26 then 3 else -1, τ) := by
  unfold f12_kindOf
  repeat' split
  all_goals rfl
