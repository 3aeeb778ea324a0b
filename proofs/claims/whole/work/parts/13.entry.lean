theorem z_args_mem : ∀ (vs : List Value) (k : Nat), (∀ v ∈ vs, v.category = 1) → ∀ (i : Nat) (v : Value), vs[i]? = some v → (k + i, v) ∈ lv_args k vs
  | [], _, _, i, v, h => by simp at h
  | w :: vs, k, hc, 0, v, h => by
    cases h
    unfold lv_args
    exact List.mem_cons_self
  | w :: vs, k, hc, i + 1, v, h => by
    have h1 : vs[i]? = some v := by simpa using h
    have hw : w.category = 1 := hc w List.mem_cons_self
    have := z_args_mem vs (k + 1) (fun v hv => hc v (List.mem_cons_of_mem _ hv)) i v h1
    unfold lv_args
    rw [if_neg (by omega), show k + (i + 1) = k + 1 + i by omega]
    exact List.mem_cons_of_mem _ this
theorem z_loe {vs : List Value} {n : Nat} {lo : List (Option Value)} (hlo : lo = vs.map some ++ List.replicate n none) (hc : ∀ v ∈ vs, v.category = 1) : ∀ (i : Nat) (v : Value), lo[i]? = some (some v) → (i, v) ∈ lv_args 0 vs ∧ v.category = 1 := by
  intro i v h
  subst hlo
  by_cases hi : i < vs.length
  · rw [List.getElem?_append_left (by simpa using hi), List.getElem?_map] at h
    obtain ⟨w, h1, h2⟩ := Option.map_eq_some_iff.mp h
    cases h2
    have := z_args_mem vs 0 hc i v h1
    rw [Nat.zero_add] at this
    exact ⟨this, hc v (List.mem_of_getElem? h1)⟩
  · rw [List.getElem?_append_right (by simpa using hi)] at h
    have := List.mem_of_getElem? h
    simp at this
theorem z_c1i (x : Int32) : (Value.int x).category = 1 := rfl
theorem z_c1r (x : Nat) : (Value.ref x).category = 1 := rfl
