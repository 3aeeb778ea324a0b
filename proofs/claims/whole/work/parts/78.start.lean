/-! the two new objects -/
set_option maxRecDepth 10000 in
theorem rel_start : Rel0 i1 i2 := by
  refine ⟨⟨0, ⟨⟨by omega, rfl, rfl, ⟨3, by omega, rfl⟩, rfl, ⟨i1 1 2 |>.toInt.toNat, by decide, rfl⟩, rfl, ⟨i1 1 3 |>.toInt.toNat, by decide, rfl⟩, rfl⟩, fun i _ => ⟨rfl, 0, by omega, rfl⟩, fun i _ => ⟨rfl, 0, by omega, rfl, fun _ => rfl⟩, ⟨0, by omega, rfl, rfl, fun i hi => absurd hi (by omega)⟩, ⟨0, 0, by omega, by omega, rfl, rfl, rfl, fun i hi => absurd hi (by omega), fun i hi => absurd hi (by omega)⟩, ⟨0, by omega, rfl, rfl, fun i hi => absurd hi (by omega)⟩, ⟨0, by omega, rfl, rfl, fun i hi => absurd hi (by omega)⟩, ⟨0, by omega, rfl, rfl, fun i hi => absurd hi (by omega)⟩, fun k _ => rfl, ⟨⟨rfl, rfl, rfl, rfl⟩, ⟨0, by omega, rfl⟩, ⟨0, by omega, rfl⟩, fun i hi => ?_, fun h hh => ?_, fun h t _ _ _ => ?_⟩⟩, ⟨0, 0, by omega, by omega, rfl, rfl, rfl, fun j hj => absurd hj (by omega)⟩⟩, ⟨rfl, .inl rfl⟩, ⟨0, by omega, rfl, rfl, fun k hk => absurd hk (by omega)⟩, ⟨rfl, rfl⟩, ⟨rfl, rfl, rfl, fun k hk => ?_, rfl, rfl, rfl, rfl, rfl, rfl⟩⟩
  · have e : i1 19 i = 50 := by
      show n_pre (fun _ => 50) 64 i = 50
      unfold n_pre
      rw [if_pos hi]
    refine ⟨?_, 50, by omega, e⟩
    show i2 1 (4 + i) = i1 19 i - 50
    rw [e]; rfl
  · have e : i1 20 h = -1 := by
      show n_pre (fun _ => -1) 8 h = -1
      unfold n_pre
      rw [if_pos hh]
    have e2 : i1 22 h = -1 := by
      show n_pre (fun _ => -1) 8 h = -1
      unfold n_pre
      rw [if_pos hh]
    refine ⟨?_, .inl ⟨e, rfl, e2, rfl⟩⟩
    show i2 1 (68 + h) = i1 20 h + 1
    rw [e]; rfl
  · show n_pre (fun _ => 50) 64 (8 * h + t) = 50
    unfold n_pre
    rw [if_pos (by omega)]
  · show n_pre m_words 145 k = _
    unfold n_pre
    rw [if_pos hk]
