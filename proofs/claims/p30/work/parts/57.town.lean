/-! is a town there? on both sides -/
theorem hasT_L {M : Mem} {x : Int} (h6 : 0 ≤ M 102 0 ∧ M 102 0 ≤ 6) (hx : inR x) (ht : ∀ i : Nat, (i : Int) < M 102 0 → inR (M 7 i)) : ∀ (m i n : Nat), (i : Int) + m = M 102 0 → m < n → (∀ j : Nat, j < i → M 7 j ≠ x) →
    ((∃ j : Nat, (j : Int) < M 102 0 ∧ M 7 j = x) ∧ fX3_hasTownAt_L2 n M x (i : Int) = some (.inl 1)) ∨ ((¬ ∃ j : Nat, (j : Int) < M 102 0 ∧ M 7 j = x) ∧ fX3_hasTownAt_L2 n M x (i : Int) = some (.inr ())) := by
  intro m
  induction m with
  | zero =>
    intro i n h hn hj
    obtain ⟨n, rfl⟩ : ∃ k, n = k + 1 := ⟨n - 1, by omega⟩
    refine Or.inr ⟨fun ⟨j, j1, j2⟩ => hj j (by omega) j2, ?_⟩
    rw [fX3_hasTownAt_L2]
    exact w_gdR (by omega) (by omega) (w_gdR (by omega) (by omega) (w_t (by omega) rfl))
  | succ m ih =>
    intro i n h hn hj
    obtain ⟨n, rfl⟩ : ∃ k, n = k + 1 := ⟨n - 1, by omega⟩
    have hi : (i : Int) < M 102 0 := by omega
    by_cases c : M 7 i = x
    · refine Or.inl ⟨⟨i, hi, c⟩, ?_⟩
      rw [fX3_hasTownAt_L2]
      refine w_gdR (by omega) (by omega) (w_gdR (by omega) (by omega) (w_f (by omega) (w_gdB (by omega) (by omega) ?_)))
      rw [Int.toNat_natCast]
      exact w_gd (ht i hi) (w_gd hx (w_t c rfl))
    · have k : fX3_hasTownAt_L2 (n + 1) M x (i : Int) = fX3_hasTownAt_L2 n M x ((i + 1 : Nat) : Int) := by
        rw [fX3_hasTownAt_L2, gd_pos ⟨by omega, by omega⟩, gd_pos ⟨by omega, by omega⟩, if_neg (by omega), gd_pos ⟨by omega, by omega⟩, Int.toNat_natCast, gd_pos (ht i hi), gd_pos hx, if_neg c]
        rfl
      rw [k]
      refine ih (i + 1) n (by omega) (by omega) fun j h1 => ?_
      by_cases q : j = i
      · rw [q]; exact c
      · exact hj j (by omega)
theorem hasT {M : Mem} {x : Int} (h6 : 0 ≤ M 102 0 ∧ M 102 0 ≤ 6) (hx : inR x) (ht : ∀ i : Nat, (i : Int) < M 102 0 → inR (M 7 i)) :
    ((∃ j : Nat, (j : Int) < M 102 0 ∧ M 7 j = x) ∧ fX3_hasTownAt M x = some 1) ∨ ((¬ ∃ j : Nat, (j : Int) < M 102 0 ∧ M 7 j = x) ∧ fX3_hasTownAt M x = some 0) := by
  unfold fX3_hasTownAt
  rcases hasT_L h6 hx ht (M 102 0).toNat 0 FU (by omega) (by have := FU_big; omega) (fun j h => absurd h (by omega)) with ⟨a, b⟩ | ⟨a, b⟩
  · exact Or.inl ⟨a, w_bind b rfl⟩
  · exact Or.inr ⟨a, w_bind b rfl⟩
