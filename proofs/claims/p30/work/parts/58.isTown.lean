theorem isT_L {M : Mem} {x : Int} (h6 : 0 ≤ M 101 0 ∧ M 101 0 ≤ 6) (hx : inR x) (ht : ∀ i : Nat, (i : Int) < M 101 0 → inR (M 2 i)) : ∀ (m i n : Nat) (b : Int), (i : Int) + m = M 101 0 → m < n → (b = 0 ∨ b = 1) → (b = 1 ↔ ∃ j : Nat, j < i ∧ M 2 j = x) →
    ∃ r, fX6_isTown_L4 n M x b (i : Int) = some r ∧ (r = 0 ∨ r = 1) ∧ (r = 1 ↔ ∃ j : Nat, (j : Int) < M 101 0 ∧ M 2 j = x) := by
  intro m
  induction m with
  | zero =>
    intro i n b h hn hb hj
    obtain ⟨n, rfl⟩ : ∃ k, n = k + 1 := ⟨n - 1, by omega⟩
    refine ⟨b, ?_, hb, hj.trans ⟨fun ⟨j, j1, j2⟩ => ⟨j, by omega, j2⟩, fun ⟨j, j1, j2⟩ => ⟨j, by omega, j2⟩⟩⟩
    clear hj
    rw [fX6_isTown_L4]
    exact w_gdR (by omega) (by omega) (w_gdR (by omega) (by omega) (w_t (by omega) rfl))
  | succ m ih =>
    intro i n b h hn hb hj
    obtain ⟨n, rfl⟩ : ∃ k, n = k + 1 := ⟨n - 1, by omega⟩
    have hi : (i : Int) < M 101 0 := by omega
    have key : ∃ y, (y = 0 ∨ y = 1) ∧ (y = 1 ↔ ∃ j : Nat, j < i + 1 ∧ M 2 j = x) ∧ (if b = 0 then (gd (inB (i : Int) 6) (gd (inR (M 2 i)) (gd (inR x) (if M 2 i = x then (some (1 : Int)) else (some (0)))))) else (some (1))) = some y := by
      rcases hb with rfl | rfl
      · by_cases c : M 2 i = x
        · exact ⟨1, Or.inr rfl, ⟨fun _ => ⟨i, by omega, c⟩, fun _ => rfl⟩, w_t rfl (w_gdB (by omega) (by omega) (w_gd (ht i hi) (w_gd hx (w_t c rfl))))⟩
        · refine ⟨0, Or.inl rfl, ⟨fun q => absurd q (by decide), fun ⟨j, j1, j2⟩ => ?_⟩, w_t rfl (w_gdB (by omega) (by omega) (w_gd (ht i hi) (w_gd hx (w_f c rfl))))⟩
          by_cases q : j = i
          · rw [q] at j2; exact absurd j2 c
          · exact absurd (hj.mpr ⟨j, by omega, j2⟩) (by decide)
      · obtain ⟨j, j1, j2⟩ := hj.mp rfl
        exact ⟨1, Or.inr rfl, ⟨fun _ => ⟨j, by omega, j2⟩, fun _ => rfl⟩, w_f N1 rfl⟩
    clear hj
    obtain ⟨y, y1, y2, y3⟩ := key
    obtain ⟨r, k1, k2⟩ := ih (i + 1) n y (by omega) (by omega) y1 y2
    refine ⟨r, ?_, k2⟩
    clear y2
    rw [fX6_isTown_L4]
    refine w_gdR (by omega) (by omega) (w_gdR (by omega) (by omega) (w_f (by omega) (w_gdR (by omega) (by omega) (w_bind (t := y) ?_ ?_))))
    · rw [Int.toNat_natCast]; exact y3
    · rw [show (i : Int) + 1 = ((i + 1 : Nat) : Int) by omega]; exact k1
theorem isT {M : Mem} {x : Int} (h6 : 0 ≤ M 101 0 ∧ M 101 0 ≤ 6) (hx : inR x) (ht : ∀ i : Nat, (i : Int) < M 101 0 → inR (M 2 i)) : ∃ r, fX6_isTown M x = some r ∧ (r = 0 ∨ r = 1) ∧ (r = 1 ↔ ∃ j : Nat, (j : Int) < M 101 0 ∧ M 2 j = x) := by
  obtain ⟨r, a, b, c⟩ := isT_L h6 hx ht (M 101 0).toNat 0 FU 0 (by omega) (by have := FU_big; omega) (Or.inl rfl) ⟨fun q => absurd q (by decide), fun ⟨j, h, _⟩ => absurd h (by omega)⟩
  refine ⟨r, ?_, b, c⟩
  unfold fX6_isTown
  exact w_bind a (w_gd b rfl)
