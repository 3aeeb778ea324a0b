/-! the memory of a fixed set of cells, and the machine's world that holds it -/
abbrev z_M : Type := Nat → Nat → Int32
def z_set (σ : z_M) (c k : Nat) (v : Int32) : z_M := fun c' => if c' = c then upd (σ c) k v else σ c'
def z_row (σ : z_M) (c : Nat) (f : Nat → Int32) : z_M := fun c' => if c' = c then f else σ c'
abbrev z_S : Type := (Nat → Nat) × (Nat → Nat) × (Nat → Nat → Option Nat) × Nat
abbrev z_Y : Type := ClassId × ClassId × ClassId
def z_fv (S : z_S) (a : Nat → Nat) (σ : z_M) (c k : Nat) : Value := match S.2.2.1 c k with
  | some q => .ref (a q)
  | none => .int (σ c k)
def z_E (S : z_S) (Y : z_Y) (a : Nat → Nat) (σ : z_M) (c : Nat) : va_E :=
  if S.1 c < 100 then .inr (S.1 c, (List.range (S.2.1 c)).map (z_fv S a σ c))
  else if S.1 c = 100 then .inl (Y.1, S.2.1 c, .inl (σ c))
  else if S.1 c = 101 then .inl (Y.2.1, S.2.1 c, .inl (σ c))
  else .inl (Y.2.2, S.2.1 c, .inr (.inr (.inr (.inr (fun k => (S.2.2.1 c k).map a)))))
def z_wl (S : z_S) (Y : z_Y) (a : Nat → Nat) (σ : z_M) : va_W := (List.range S.2.2.2).map (fun c => (a c, z_E S Y a σ c))
theorem z_wl_at {S : z_S} {Y : z_Y} {a : Nat → Nat} {σ : z_M} {c : Nat} (h : c < S.2.2.2) : (z_wl S Y a σ)[c]? = some (a c, z_E S Y a σ c) := by
  simp [z_wl, h]
theorem z_wl_of {S : z_S} {Y : z_Y} {a : Nat → Nat} {σ : z_M} {c : Nat} {q : Nat × va_E} (h : (z_wl S Y a σ)[c]? = some q) : c < S.2.2.2 ∧ q = (a c, z_E S Y a σ c) := by
  have hl : c < (z_wl S Y a σ).length := (List.getElem?_eq_some_iff.mp h).1
  have hc : c < S.2.2.2 := by simpa [z_wl] using hl
  rw [z_wl_at hc] at h
  exact ⟨hc, (Option.some.inj h).symm⟩
theorem z_wl_set {S : z_S} {Y : z_Y} {a : Nat → Nat} {σ σ' : z_M} {c : Nat} {e : va_E} (h : c < S.2.2.2) (he : e = z_E S Y a σ' c) (ho : ∀ c', c' ≠ c → σ' c' = σ c') : (z_wl S Y a σ).set c (a c, e) = z_wl S Y a σ' := by
  apply List.ext_getElem?
  intro i
  by_cases hi : i = c
  · subst hi
    rw [List.getElem?_set_self (by simpa [z_wl] using h), z_wl_at h, he]
  · rw [List.getElem?_set_ne (Ne.symm hi)]
    by_cases hl : i < S.2.2.2
    · rw [z_wl_at hl, z_wl_at hl]
      have h1 := ho i hi
      have h2 : z_E S Y a σ i = z_E S Y a σ' i := by
        unfold z_E
        have h3 : z_fv S a σ i = z_fv S a σ' i := by
          funext k
          unfold z_fv
          rw [h1]
        rw [h3, h1]
      rw [h2]
    · rw [List.getElem?_eq_none (by simp [z_wl]; omega), List.getElem?_eq_none (by simp [z_wl]; omega)]
/-- the addresses of the cells -/
def z_A (S : z_S) (a : Nat → Nat) : Nat → Prop := fun q => ∃ c, c < S.2.2.2 ∧ q = a c
def z_In (S : z_S) (a : Nat → Nat) : Prop := ∀ i j, i < S.2.2.2 → j < S.2.2.2 → a i = a j → i = j
theorem z_D {S : z_S} {Y : z_Y} {a : Nat → Nat} {σ : z_M} (h : z_In S a) : va_D (z_A S a) (z_wl S Y a σ) := by
  refine ⟨fun i j p q hi hj hpq => ?_, fun k q hk => ?_⟩
  · obtain ⟨h1, rfl⟩ := z_wl_of hi
    obtain ⟨h2, rfl⟩ := z_wl_of hj
    exact h i j h1 h2 hpq
  · obtain ⟨h1, rfl⟩ := z_wl_of hk
    exact ⟨k, h1, rfl⟩
/-- the good words of the tables -/
def z_T : List Cond := lw_tbl.filter goodWord
theorem z_T_good {w : Cond} (h : w ∈ z_T) : w ∈ z_T ∧ ((w.onTables && w.keeps) = true ∨ ∃ ty, w = .arrayClass ty) := ⟨h, good_of_word (List.mem_filter.mp h).2⟩
theorem z_t1 (i : Nat) {w : Cond} (h : tables_1_1[i]? = some w) (g : goodWord w = true) : w ∈ z_T := List.mem_filter.mpr ⟨List.mem_append_right _ (List.mem_append_left _ (List.mem_of_getElem? h)), g⟩
theorem z_t2 (i : Nat) {w : Cond} (h : tables_1_2[i]? = some w) (g : goodWord w = true) : w ∈ z_T := List.mem_filter.mpr ⟨List.mem_append_right _ (List.mem_append_right _ (List.mem_append_left _ (List.mem_of_getElem? h))), g⟩
theorem z_t3 (i : Nat) {w : Cond} (h : tables_1_3[i]? = some w) (g : goodWord w = true) : w ∈ z_T := List.mem_filter.mpr ⟨List.mem_append_right _ (List.mem_append_right _ (List.mem_append_right _ (List.mem_append_left _ (List.mem_of_getElem? h)))), g⟩
theorem z_t4 (i : Nat) {w : Cond} (h : tables_1_4[i]? = some w) (g : goodWord w = true) : w ∈ z_T := List.mem_filter.mpr ⟨List.mem_append_right _ (List.mem_append_right _ (List.mem_append_right _ (List.mem_append_right _ (List.mem_append_left _ (List.mem_of_getElem? h))))), g⟩
theorem z_t5 (i : Nat) {w : Cond} (h : tables_1_5[i]? = some w) (g : goodWord w = true) : w ∈ z_T := List.mem_filter.mpr ⟨List.mem_append_right _ (List.mem_append_right _ (List.mem_append_right _ (List.mem_append_right _ (List.mem_append_right _ (List.mem_append_left _ (List.mem_of_getElem? h)))))), g⟩
theorem z_t6 (i : Nat) {w : Cond} (h : tables_1_6[i]? = some w) (g : goodWord w = true) : w ∈ z_T := List.mem_filter.mpr ⟨List.mem_append_right _ (List.mem_append_right _ (List.mem_append_right _ (List.mem_append_right _ (List.mem_append_right _ (List.mem_append_right _ (List.mem_append_left _ (List.mem_of_getElem? h))))))), g⟩
theorem z_t7 (i : Nat) {w : Cond} (h : tables_1_7[i]? = some w) (g : goodWord w = true) : w ∈ z_T := List.mem_filter.mpr ⟨List.mem_append_right _ (List.mem_append_right _ (List.mem_append_right _ (List.mem_append_right _ (List.mem_append_right _ (List.mem_append_right _ (List.mem_append_right _ (List.mem_append_left _ (List.mem_of_getElem? h)))))))), g⟩
theorem z_t8 (i : Nat) {w : Cond} (h : tables_1_8[i]? = some w) (g : goodWord w = true) : w ∈ z_T := List.mem_filter.mpr ⟨List.mem_append_right _ (List.mem_append_right _ (List.mem_append_right _ (List.mem_append_right _ (List.mem_append_right _ (List.mem_append_right _ (List.mem_append_right _ (List.mem_append_right _ (List.mem_of_getElem? h)))))))), g⟩
theorem z_t0 (i : Nat) {w : Cond} (h : (k2_sels lw_privs)[i]? = some w) (g : goodWord w = true) : w ∈ z_T := List.mem_filter.mpr ⟨List.mem_append_left _ (List.mem_of_getElem? h), g⟩
