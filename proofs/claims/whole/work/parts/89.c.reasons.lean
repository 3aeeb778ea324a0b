/-! reasons: what the class does after a fault -/
theorem e3_r40F {v : Int32} {σ : z_M} (h2 : ¬ σ 101 2 = 0) : f3_readReason_J40 v σ = some ((), σ) := by
  unfold f3_readReason_J40
  rw [if_neg h2]
theorem e3_r152F {a b : Int32} {σ : z_M} (h2 : ¬ σ 101 2 = 0) : f3_readReason_J152 a b σ = some ((), σ) := by
  unfold f3_readReason_J152
  rw [e3_takesF h2, q_bnd, e3_numberF h2, q_bnd, e3_finishF h2, q_bnd]
theorem e3_r102F {a b c : Int32} {m : Nat} {σ : z_M} (h2 : ¬ σ 101 2 = 0) : f3_readReason_L102 (m + 1) a b c σ = some ((), σ) := by
  unfold f3_readReason_L102
  rw [if_neg h2, e3_r152F h2, ite_self]
