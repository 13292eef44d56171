theorem Rl.town {Mc Mm : Mem} (h : Rl Mc Mm) (h6 : Mc 102 0 < 6) {v : Nat} (hv : v < 36) (hno : ¬ ∃ j : Nat, (j : Int) < Mc 102 0 ∧ Mc 7 j = v) : Rl (wr (wr (wr Mc 7 (Mc 102 0).toNat v) 102 0 (Mc 102 0 + 1)) 103 0 0) (wr (wr Mm 2 (Mm 101 0).toNat v) 101 0 (Mm 101 0 + 1)) := by
  obtain ⟨a1, a2, a3, a4, ⟨w1, w2, w3, w4⟩, a6, a7⟩ := h
  have at7 : ∀ i : Nat, wr (wr (wr Mc 7 (Mc 102 0).toNat v) 102 0 (Mc 102 0 + 1)) 103 0 0 7 i = if i = (Mc 102 0).toNat then (v : Int) else Mc 7 i := fun i => by
    show (if (7 : Nat) = 7 ∧ i = (Mc 102 0).toNat then (v : Int) else Mc 7 i) = _
    by_cases q : i = (Mc 102 0).toNat
    · rw [if_pos q, if_pos ⟨rfl, q⟩]
    · rw [if_neg q, if_neg (fun z => q z.2)]
  refine ⟨a1, a2, a3, a4, ⟨?_, ⟨?_, ?_⟩, fun i hi => ?_, fun i j hi hj e => ?_⟩, Or.inl rfl, a7⟩
  · show Mm 101 0 + 1 = Mc 102 0 + 1
    rw [w1]
  · show 0 ≤ Mc 102 0 + 1
    omega
  · show Mc 102 0 + 1 ≤ 6
    omega
  · have hi : (i : Int) < Mc 102 0 + 1 := hi
    rw [at7]
    show (if (2 : Nat) = 2 ∧ i = (Mm 101 0).toNat then (v : Int) else Mm 2 i) = _ ∧ _
    rw [w1]
    by_cases q : i = (Mc 102 0).toNat
    · rw [if_pos q, if_pos ⟨rfl, q⟩]
      exact ⟨rfl, by omega, by omega⟩
    · rw [if_neg q, if_neg (fun z => q z.2)]
      exact w3 i (by omega)
  · have hi : (i : Int) < Mc 102 0 + 1 := hi
    have hj : (j : Int) < Mc 102 0 + 1 := hj
    rw [at7, at7] at e
    by_cases q : i = (Mc 102 0).toNat
    · by_cases q2 : j = (Mc 102 0).toNat
      · rw [q, q2]
      · rw [if_pos q, if_neg q2] at e
        exact absurd ⟨j, by omega, e.symm⟩ hno
    · by_cases q2 : j = (Mc 102 0).toNat
      · rw [if_neg q, if_pos q2] at e
        exact absurd ⟨i, by omega, e⟩ hno
      · rw [if_neg q, if_neg q2] at e
        exact w4 i j (by omega) (by omega) e
