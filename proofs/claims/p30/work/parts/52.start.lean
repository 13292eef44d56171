/-! the relation at the start -/
theorem gr_start : GR M0C := ⟨by decide +kernel, by decide +kernel⟩
theorem F_start : Rl M0C M0M := by
  refine ⟨gr_start, ⟨by decide, by decide, by decide +kernel⟩, ⟨rfl, rfl⟩, by decide +kernel, ⟨rfl, ⟨by decide, by decide⟩, fun i h => ?_, fun i j h => ?_⟩, Or.inl rfl, by decide +kernel, by decide +kernel, by decide +kernel, rfl, rfl, rfl⟩
  · have e : M0C 102 0 = 0 := rfl
    rw [e] at h
    exact absurd h (by omega)
  · have e : M0C 102 0 = 0 := rfl
    rw [e] at h
    exact absurd h (by omega)
